theorem l_158_0 {V : xV} {g : xG} {Y : xW}  {Q : xW → Prop} (H : (((fI Y (10, 0, 0) 30) = 0) → L_141_0 V g Y 11 (fun Y1 => Q Y1)) ∧ (¬ ((fI Y (10, 0, 0) 30) = 0) → L_158_18 V g Y 1 0 Q)) : L_158_0 V g Y  Q := by
  intro h lv R e0
  refine y_next (pc' := 1) (xst_of (i := (.aload_n 0)) (len := 1) rfl rfl (x_aloadV (xisV_r _) e0)) ?_
  refine z_gI (t := (10, 0, 0)) (k := 30) rfl rfl rfl R (rc_10 R) ?_
  by_cases hc : (fI Y (10, 0, 0) 30) = 0
  · replace H := H.1 hc
    refine y_next (pc' := 7) (xst_of (i := (.ifCond .ne 10)) (len := 3) rfl rfl (xf_if_ne (t := 14) rfl (fun z => z hc))) ?_
    refine y_next (pc' := 8) (xst_of (i := (.aload_n 0)) (len := 1) rfl rfl (x_aloadV (xisV_r _) e0)) ?_
    refine y_next (pc' := 10) (xst_of (i := (.bipush 11)) (len := 2) rfl rfl (x_bip (v := 11) (by decide))) ?_
    refine z_cN (k := 141) (i := (.invokevirtual 187)) (as := [.ref (g.2 (10, 0, 0) 0), .int 11]) (rest := []) rfl rfl (x_callv rfl rfl (rc_ob R (rc_10 R) rfl) rfl rfl) (H _ _ R rfl rfl) (fun h Y1 R H => ?_)
    exact y_ret (xst_of (i := .return_) (len := 1) rfl rfl rfl) ⟨_, rfl, R, H⟩
  · replace H := H.2 hc
    refine y_next (xst_of (i := (.ifCond .ne 10)) (len := 3) rfl rfl (xt_if_ne (t := 14) rfl hc)) ?_
    refine y_next (pc' := 15) (xst_of (i := (.iconst 1)) (len := 1) rfl rfl (x_ico (v := 1) (by decide))) ?_
    refine z_is (i := (.istore_n 1)) (len := 1) (pc' := 16) (q := 1) rfl rfl rfl (by decide) (fun lv1 hlv => ?_)
    have e0 := xs1_B hlv e0 rfl rfl
    have e1 := xs1_N hlv
    clear hlv
    refine y_next (pc' := 17) (xst_of (i := (.iconst 0)) (len := 1) rfl rfl (x_ico (v := 0) (by decide))) ?_
    refine z_is (i := (.istore_n 2)) (len := 1) (pc' := 18) (q := 2) rfl rfl rfl (by decide) (fun lv2 hlv => ?_)
    have e0 := xs1_A hlv e0 rfl rfl
    have e1 := xs1_B hlv e1 rfl rfl
    have e2 := xs1_N hlv
    clear hlv
    exact H _ _ R e0 e1 e2
theorem l_158_18 {V : xV} {g : xG} {Y : xW} {l1 : Int32} {l2 : Int32} {Q : xW → Prop} (H : ((8 ≤ l2) → ((l1 = 0) → L_141_0 V g Y 10 (fun Y1 => L_158_110 V g Y1 l1 l2 Q)) ∧ (¬ (l1 = 0) → L_158_110 V g Y l1 l2 Q)) ∧ (¬ (8 ≤ l2) → ((l1 = 0) → L_158_92 V g Y l1 l2 ((8 * ((8 * (fI Y (10, 0, 0) 5)) + (fI Y (10, 0, 0) 30))) + l2) Q) ∧ (¬ (l1 = 0) → vp_in l2 8 ∧ vp_in l2 8 ∧ vp_in l2 8 ∧ vp_in ((8 * ((8 * (fI Y (10, 0, 0) 5)) + (fI Y (10, 0, 0) 30))) + l2) 1536 ∧ vp_in ((8 * ((8 * (fI Y (10, 0, 0) 5)) + (fI Y (10, 0, 0) 30))) + l2) 1536 ∧ vp_in ((8 * ((8 * (fI Y (10, 0, 0) 5)) + (fI Y (10, 0, 0) 30))) + l2) 1536 ∧ L_142_0 V g Y (fA Y (10, 0, 0) 24 (Int32.toNatClampNeg l2)) (fA Y (10, 0, 0) 25 (Int32.toNatClampNeg l2)) (fA Y (10, 0, 0) 26 (Int32.toNatClampNeg l2)) (fA Y (10, 0, 0) 19 (Int32.toNatClampNeg ((8 * ((8 * (fI Y (10, 0, 0) 5)) + (fI Y (10, 0, 0) 30))) + l2))) (fA Y (10, 0, 0) 20 (Int32.toNatClampNeg ((8 * ((8 * (fI Y (10, 0, 0) 5)) + (fI Y (10, 0, 0) 30))) + l2))) (fA Y (10, 0, 0) 21 (Int32.toNatClampNeg ((8 * ((8 * (fI Y (10, 0, 0) 5)) + (fI Y (10, 0, 0) 30))) + l2))) (fun x3 Y2 => ((x3 = 0) → L_158_92 V g Y2 l1 l2 ((8 * ((8 * (fI Y (10, 0, 0) 5)) + (fI Y (10, 0, 0) 30))) + l2) Q) ∧ (¬ (x3 = 0) → L_158_93 V g Y2 l1 l2 ((8 * ((8 * (fI Y (10, 0, 0) 5)) + (fI Y (10, 0, 0) 30))) + l2) 1 Q))))) : L_158_18 V g Y l1 l2 Q := by
  intro h lv R e0 e1 e2
  refine y_next (pc' := 19) (xst_of (i := (.iload_n 2)) (len := 1) rfl rfl (x_ilo e2)) ?_
  refine y_next (pc' := 21) (xst_of (i := (.bipush 8)) (len := 2) rfl rfl (x_bip (v := 8) (by decide))) ?_
  by_cases hc : 8 ≤ l2
  · replace H := H.1 hc
    refine y_next (xst_of (i := (.if_icmp .ge 79)) (len := 3) rfl rfl (xt_icmp_ge (t := 100) rfl hc)) ?_
    refine y_next (pc' := 101) (xst_of (i := (.iload_n 1)) (len := 1) rfl rfl (x_ilo e1)) ?_
    by_cases hc : l1 = 0
    · replace H := H.1 hc
      refine y_next (pc' := 104) (xst_of (i := (.ifCond .ne 9)) (len := 3) rfl rfl (xf_if_ne (t := 110) rfl (fun z => z hc))) ?_
      refine y_next (pc' := 105) (xst_of (i := (.aload_n 0)) (len := 1) rfl rfl (x_aloadV (xisV_r _) e0)) ?_
      refine y_next (pc' := 107) (xst_of (i := (.bipush 10)) (len := 2) rfl rfl (x_bip (v := 10) (by decide))) ?_
      refine z_cN (k := 141) (i := (.invokevirtual 187)) (as := [.ref (g.2 (10, 0, 0) 0), .int 10]) (rest := []) rfl rfl (x_callv rfl rfl (rc_ob R (rc_10 R) rfl) rfl rfl) (H _ _ R rfl rfl) (fun h Y1 R H => ?_)
      exact H _ _ R e0 e1 e2
    · replace H := H.2 hc
      refine y_next (xst_of (i := (.ifCond .ne 9)) (len := 3) rfl rfl (xt_if_ne (t := 110) rfl hc)) ?_
      exact H _ _ R e0 e1 e2
  · replace H := H.2 hc
    refine y_next (pc' := 24) (xst_of (i := (.if_icmp .ge 79)) (len := 3) rfl rfl (xf_icmp_ge (t := 100) rfl hc)) ?_
    refine y_next (pc' := 26) (xst_of (i := (.bipush 8)) (len := 2) rfl rfl (x_bip (v := 8) (by decide))) ?_
    refine y_next (pc' := 28) (xst_of (i := (.bipush 8)) (len := 2) rfl rfl (x_bip (v := 8) (by decide))) ?_
    refine y_next (pc' := 29) (xst_of (i := (.aload_n 0)) (len := 1) rfl rfl (x_aloadV (xisV_r _) e0)) ?_
    refine z_gI (t := (10, 0, 0)) (k := 5) rfl rfl rfl R (rc_10 R) ?_
    refine y_next (pc' := 33) (xst_of (i := .imul) (len := 1) rfl rfl rfl) ?_
    refine y_next (pc' := 34) (xst_of (i := (.aload_n 0)) (len := 1) rfl rfl (x_aloadV (xisV_r _) e0)) ?_
    refine z_gI (t := (10, 0, 0)) (k := 30) rfl rfl rfl R (rc_10 R) ?_
    refine y_next (pc' := 38) (xst_of (i := .iadd) (len := 1) rfl rfl rfl) ?_
    refine y_next (pc' := 39) (xst_of (i := .imul) (len := 1) rfl rfl rfl) ?_
    refine y_next (pc' := 40) (xst_of (i := (.iload_n 2)) (len := 1) rfl rfl (x_ilo e2)) ?_
    refine y_next (pc' := 41) (xst_of (i := .iadd) (len := 1) rfl rfl rfl) ?_
    refine z_is (i := (.istore_n 3)) (len := 1) (pc' := 42) (q := 3) rfl rfl rfl (by decide) (fun lv1 hlv => ?_)
    have e0 := xs1_A hlv e0 rfl rfl
    have e1 := xs1_A hlv e1 rfl rfl
    have e2 := xs1_B hlv e2 rfl rfl
    have e3 := xs1_N hlv
    clear hlv
    refine y_next (pc' := 43) (xst_of (i := (.iload_n 1)) (len := 1) rfl rfl (x_ilo e1)) ?_
    by_cases hc : l1 = 0
    · replace H := H.1 hc
      refine y_next (xst_of (i := (.ifCond .eq 49)) (len := 3) rfl rfl (xt_if_eq (t := 92) rfl hc)) ?_
      exact H _ _ R e0 e1 e2 e3
    · replace H := H.2 hc
      refine y_next (pc' := 46) (xst_of (i := (.ifCond .eq 49)) (len := 3) rfl rfl (xf_if_eq (t := 92) rfl hc)) ?_
      refine y_next (pc' := 47) (xst_of (i := (.aload_n 0)) (len := 1) rfl rfl (x_aloadV (xisV_r _) e0)) ?_
      refine z_gA (t := (10, 0, 0)) (k := 24) rfl rfl rfl R (rc_10 R) ?_
      refine y_next (pc' := 51) (xst_of (i := (.iload_n 2)) (len := 1) rfl rfl (x_ilo e2)) ?_
      refine z_aI (t := (10, 0, 0)) (k := 24) (n := 8) (i := l2) rfl rfl R (rc_10 R) H.1 ?_
      replace H := H.2
      refine y_next (pc' := 53) (xst_of (i := (.aload_n 0)) (len := 1) rfl rfl (x_aloadV (xisV_r _) e0)) ?_
      refine z_gA (t := (10, 0, 0)) (k := 25) rfl rfl rfl R (rc_10 R) ?_
      refine y_next (pc' := 57) (xst_of (i := (.iload_n 2)) (len := 1) rfl rfl (x_ilo e2)) ?_
      refine z_aI (t := (10, 0, 0)) (k := 25) (n := 8) (i := l2) rfl rfl R (rc_10 R) H.1 ?_
      replace H := H.2
      refine y_next (pc' := 59) (xst_of (i := (.aload_n 0)) (len := 1) rfl rfl (x_aloadV (xisV_r _) e0)) ?_
      refine z_gA (t := (10, 0, 0)) (k := 26) rfl rfl rfl R (rc_10 R) ?_
      refine y_next (pc' := 63) (xst_of (i := (.iload_n 2)) (len := 1) rfl rfl (x_ilo e2)) ?_
      refine z_aI (t := (10, 0, 0)) (k := 26) (n := 8) (i := l2) rfl rfl R (rc_10 R) H.1 ?_
      replace H := H.2
      refine y_next (pc' := 65) (xst_of (i := (.aload_n 0)) (len := 1) rfl rfl (x_aloadV (xisV_r _) e0)) ?_
      refine z_gA (t := (10, 0, 0)) (k := 19) rfl rfl rfl R (rc_10 R) ?_
      refine y_next (pc' := 69) (xst_of (i := (.iload_n 3)) (len := 1) rfl rfl (x_ilo e3)) ?_
      refine z_aI (t := (10, 0, 0)) (k := 19) (n := 1536) (i := ((8 * ((8 * (fI Y (10, 0, 0) 5)) + (fI Y (10, 0, 0) 30))) + l2)) rfl rfl R (rc_10 R) H.1 ?_
      replace H := H.2
      refine y_next (pc' := 71) (xst_of (i := (.aload_n 0)) (len := 1) rfl rfl (x_aloadV (xisV_r _) e0)) ?_
      refine z_gA (t := (10, 0, 0)) (k := 20) rfl rfl rfl R (rc_10 R) ?_
      refine y_next (pc' := 75) (xst_of (i := (.iload_n 3)) (len := 1) rfl rfl (x_ilo e3)) ?_
      refine z_aI (t := (10, 0, 0)) (k := 20) (n := 1536) (i := ((8 * ((8 * (fI Y (10, 0, 0) 5)) + (fI Y (10, 0, 0) 30))) + l2)) rfl rfl R (rc_10 R) H.1 ?_
      replace H := H.2
      refine y_next (pc' := 77) (xst_of (i := (.aload_n 0)) (len := 1) rfl rfl (x_aloadV (xisV_r _) e0)) ?_
      refine z_gA (t := (10, 0, 0)) (k := 21) rfl rfl rfl R (rc_10 R) ?_
      refine y_next (pc' := 81) (xst_of (i := (.iload_n 3)) (len := 1) rfl rfl (x_ilo e3)) ?_
      refine z_aI (t := (10, 0, 0)) (k := 21) (n := 1536) (i := ((8 * ((8 * (fI Y (10, 0, 0) 5)) + (fI Y (10, 0, 0) 30))) + l2)) rfl rfl R (rc_10 R) H.1 ?_
      replace H := H.2
      refine z_cI (k := 142) (i := (.invokestatic 177)) (as := [.int (fA Y (10, 0, 0) 24 (Int32.toNatClampNeg l2)), .int (fA Y (10, 0, 0) 25 (Int32.toNatClampNeg l2)), .int (fA Y (10, 0, 0) 26 (Int32.toNatClampNeg l2)), .int (fA Y (10, 0, 0) 19 (Int32.toNatClampNeg ((8 * ((8 * (fI Y (10, 0, 0) 5)) + (fI Y (10, 0, 0) 30))) + l2))), .int (fA Y (10, 0, 0) 20 (Int32.toNatClampNeg ((8 * ((8 * (fI Y (10, 0, 0) 5)) + (fI Y (10, 0, 0) 30))) + l2))), .int (fA Y (10, 0, 0) 21 (Int32.toNatClampNeg ((8 * ((8 * (fI Y (10, 0, 0) 5)) + (fI Y (10, 0, 0) 30))) + l2)))]) (rest := []) rfl rfl rfl (H _ _ R rfl rfl rfl rfl rfl rfl) (fun x3 h Y2 R H => ?_)
      by_cases hc : x3 = 0
      · replace H := H.1 hc
        refine y_next (xst_of (i := (.ifCond .eq 7)) (len := 3) rfl rfl (xt_if_eq (t := 92) rfl hc)) ?_
        exact H _ _ R e0 e1 e2 e3
      · replace H := H.2 hc
        refine y_next (pc' := 88) (xst_of (i := (.ifCond .eq 7)) (len := 3) rfl rfl (xf_if_eq (t := 92) rfl hc)) ?_
        refine y_next (pc' := 89) (xst_of (i := (.iconst 1)) (len := 1) rfl rfl (x_ico (v := 1) (by decide))) ?_
        refine y_next (pc' := 93) (xst_of (i := (.goto 4)) (len := 3) rfl rfl rfl) ?_
        exact H _ _ R e0 e1 e2 e3
theorem l_158_92 {V : xV} {g : xG} {Y : xW} {l1 : Int32} {l2 : Int32} {l3 : Int32} {Q : xW → Prop} (H : L_158_93 V g Y l1 l2 l3 0 Q) : L_158_92 V g Y l1 l2 l3 Q := by
  intro h lv R e0 e1 e2 e3
  refine y_next (pc' := 93) (xst_of (i := (.iconst 0)) (len := 1) rfl rfl (x_ico (v := 0) (by decide))) ?_
  exact H _ _ R e0 e1 e2 e3
theorem l_158_93 {V : xV} {g : xG} {Y : xW} {l1 : Int32} {l2 : Int32} {l3 : Int32} {s0 : Int32} {Q : xW → Prop} (H : L_158_18 V g Y s0 (l2 + 1) Q) : L_158_93 V g Y l1 l2 l3 s0 Q := by
  intro h lv R e0 e1 e2 e3
  refine z_is (i := (.istore_n 1)) (len := 1) (pc' := 94) (q := 1) rfl rfl rfl (by decide) (fun lv1 hlv => ?_)
  have e0 := xs1_B hlv e0 rfl rfl
  have e2 := xs1_A hlv e2 rfl rfl
  have e3 := xs1_A hlv e3 rfl rfl
  have e1 := xs1_N hlv
  clear hlv
  refine z_in (q := 2) (n := 1) (v := 1) rfl e2 (by decide) (by decide) (fun lv2 hlv => ?_)
  have e0 := xs1_A hlv e0 rfl rfl
  have e1 := xs1_B hlv e1 rfl rfl
  have e3 := xs1_A hlv e3 rfl rfl
  have e2 := xs1_N hlv
  clear hlv
  refine y_next (pc' := 18) (xst_of (i := (.goto (-79))) (len := 3) rfl rfl rfl) ?_
  exact H _ _ R e0 e1 e2
theorem l_158_110 {V : xV} {g : xG} {Y : xW} {l1 : Int32} {l2 : Int32} {Q : xW → Prop} (H : Q Y) : L_158_110 V g Y l1 l2 Q := by
  intro h lv R e0 e1 e2
  exact y_ret (xst_of (i := .return_) (len := 1) rfl rfl rfl) ⟨_, rfl, R, H⟩
set_option maxRecDepth 20000 in
theorem l_159_0 {V : xV} {g : xG} {Y : xW} {l1 : Int32} {Q : xW → Prop} (H : L_127_0 V g Y l1 (fun x2 Y1 => L_128_0 V g Y1 l1 (fun x4 Y3 => L_129_0 V g Y3 l1 (fun x6 Y5 => L_131_0 V g Y5 l1 (fun x8 Y7 => L_130_0 V g Y7 l1 (fun x10 Y9 => vp_in x2 21 ∧ ((((fA Y9 (10, 0, 0) 1 (Int32.toNatClampNeg x2)) &&& 1) = 0) → L_159_58 V g Y9 l1 x2 x4 x6 x8 x10 ((Int32.toInt16 x10).toInt32) (fA Y9 (10, 0, 0) 1 (Int32.toNatClampNeg x2)) Q) ∧ (¬ (((fA Y9 (10, 0, 0) 1 (Int32.toNatClampNeg x2)) &&& 1) = 0) → vp_in x4 8 ∧ (((fA Y9 (10, 0, 0) 24 (Int32.toNatClampNeg x4)) = 1) → L_159_58 V g Y9 l1 x2 x4 x6 x8 x10 ((Int32.toInt16 x10).toInt32) (fA Y9 (10, 0, 0) 1 (Int32.toNatClampNeg x2)) Q) ∧ (¬ ((fA Y9 (10, 0, 0) 24 (Int32.toNatClampNeg x4)) = 1) → L_159_94 V g Y9 l1 x2 x4 x6 x8 x10 ((Int32.toInt16 x10).toInt32) (fA Y9 (10, 0, 0) 1 (Int32.toNatClampNeg x2)) Q)))))))) : L_159_0 V g Y l1 Q := by
  intro h lv R e0 e1
  refine y_next (pc' := 1) (xst_of (i := (.iload_n 1)) (len := 1) rfl rfl (x_ilo e1)) ?_
  refine z_cI (k := 127) (i := (.invokestatic 144)) (as := [.int l1]) (rest := []) rfl rfl rfl (H _ _ R rfl) (fun x2 h Y1 R H => ?_)
  refine z_is (i := (.istore_n 2)) (len := 1) (pc' := 5) (q := 2) rfl rfl rfl (by decide) (fun lv1 hlv => ?_)
  have e0 := xs1_A hlv e0 rfl rfl
  have e1 := xs1_B hlv e1 rfl rfl
  have e2 := xs1_N hlv
  clear hlv
  refine y_next (pc' := 6) (xst_of (i := (.iload_n 1)) (len := 1) rfl rfl (x_ilo e1)) ?_
  refine z_cI (k := 128) (i := (.invokestatic 148)) (as := [.int l1]) (rest := []) rfl rfl rfl (H _ _ R rfl) (fun x4 h Y3 R H => ?_)
  refine z_is (i := (.istore_n 3)) (len := 1) (pc' := 10) (q := 3) rfl rfl rfl (by decide) (fun lv2 hlv => ?_)
  have e0 := xs1_A hlv e0 rfl rfl
  have e1 := xs1_A hlv e1 rfl rfl
  have e2 := xs1_B hlv e2 rfl rfl
  have e3 := xs1_N hlv
  clear hlv
  refine y_next (pc' := 11) (xst_of (i := (.iload_n 1)) (len := 1) rfl rfl (x_ilo e1)) ?_
  refine z_cI (k := 129) (i := (.invokestatic 151)) (as := [.int l1]) (rest := []) rfl rfl rfl (H _ _ R rfl) (fun x6 h Y5 R H => ?_)
  refine z_is (i := (.istore 4)) (len := 2) (pc' := 16) (q := 4) rfl rfl rfl (by decide) (fun lv3 hlv => ?_)
  have e0 := xs1_A hlv e0 rfl rfl
  have e1 := xs1_A hlv e1 rfl rfl
  have e2 := xs1_A hlv e2 rfl rfl
  have e3 := xs1_B hlv e3 rfl rfl
  have e4 := xs1_N hlv
  clear hlv
  refine y_next (pc' := 17) (xst_of (i := (.iload_n 1)) (len := 1) rfl rfl (x_ilo e1)) ?_
  refine z_cI (k := 131) (i := (.invokestatic 157)) (as := [.int l1]) (rest := []) rfl rfl rfl (H _ _ R rfl) (fun x8 h Y7 R H => ?_)
  refine z_is (i := (.istore 5)) (len := 2) (pc' := 22) (q := 5) rfl rfl rfl (by decide) (fun lv4 hlv => ?_)
  have e0 := xs1_A hlv e0 rfl rfl
  have e1 := xs1_A hlv e1 rfl rfl
  have e2 := xs1_A hlv e2 rfl rfl
  have e3 := xs1_A hlv e3 rfl rfl
  have e4 := xs1_B hlv e4 rfl rfl
  have e5 := xs1_N hlv
  clear hlv
  refine y_next (pc' := 23) (xst_of (i := (.iload_n 1)) (len := 1) rfl rfl (x_ilo e1)) ?_
  refine z_cI (k := 130) (i := (.invokestatic 154)) (as := [.int l1]) (rest := []) rfl rfl rfl (H _ _ R rfl) (fun x10 h Y9 R H => ?_)
  refine z_is (i := (.istore 6)) (len := 2) (pc' := 28) (q := 6) rfl rfl rfl (by decide) (fun lv5 hlv => ?_)
  have e0 := xs1_A hlv e0 rfl rfl
  have e1 := xs1_A hlv e1 rfl rfl
  have e2 := xs1_A hlv e2 rfl rfl
  have e3 := xs1_A hlv e3 rfl rfl
  have e4 := xs1_A hlv e4 rfl rfl
  have e5 := xs1_B hlv e5 rfl rfl
  have e6 := xs1_N hlv
  clear hlv
  refine y_next (pc' := 30) (xst_of (i := (.iload 6)) (len := 2) rfl rfl (x_ilo e6)) ?_
  refine y_next (pc' := 31) (xst_of (i := .i2s) (len := 1) rfl rfl rfl) ?_
  refine z_is (i := (.istore 7)) (len := 2) (pc' := 33) (q := 7) rfl rfl rfl (by decide) (fun lv6 hlv => ?_)
  have e0 := xs1_A hlv e0 rfl rfl
  have e1 := xs1_A hlv e1 rfl rfl
  have e2 := xs1_A hlv e2 rfl rfl
  have e3 := xs1_A hlv e3 rfl rfl
  have e4 := xs1_A hlv e4 rfl rfl
  have e5 := xs1_A hlv e5 rfl rfl
  have e6 := xs1_B hlv e6 rfl rfl
  have e7 := xs1_N hlv
  clear hlv
  refine y_next (pc' := 34) (xst_of (i := (.aload_n 0)) (len := 1) rfl rfl (x_aloadV (xisV_r _) e0)) ?_
  refine z_gA (t := (10, 0, 0)) (k := 1) rfl rfl rfl R (rc_10 R) ?_
  refine y_next (pc' := 38) (xst_of (i := (.iload_n 2)) (len := 1) rfl rfl (x_ilo e2)) ?_
  refine z_aI (t := (10, 0, 0)) (k := 1) (n := 21) (i := x2) rfl rfl R (rc_10 R) H.1 ?_
  replace H := H.2
  refine z_is (i := (.istore 8)) (len := 2) (pc' := 41) (q := 8) rfl rfl rfl (by decide) (fun lv7 hlv => ?_)
  have e0 := xs1_A hlv e0 rfl rfl
  have e1 := xs1_A hlv e1 rfl rfl
  have e2 := xs1_A hlv e2 rfl rfl
  have e3 := xs1_A hlv e3 rfl rfl
  have e4 := xs1_A hlv e4 rfl rfl
  have e5 := xs1_A hlv e5 rfl rfl
  have e6 := xs1_A hlv e6 rfl rfl
  have e7 := xs1_B hlv e7 rfl rfl
  have e8 := xs1_N hlv
  clear hlv
  refine y_next (pc' := 43) (xst_of (i := (.iload 8)) (len := 2) rfl rfl (x_ilo e8)) ?_
  refine y_next (pc' := 44) (xst_of (i := (.iconst 1)) (len := 1) rfl rfl (x_ico (v := 1) (by decide))) ?_
  refine y_next (pc' := 45) (xst_of (i := .iand) (len := 1) rfl rfl rfl) ?_
  by_cases hc : ((fA Y9 (10, 0, 0) 1 (Int32.toNatClampNeg x2)) &&& 1) = 0
  · replace H := H.1 hc
    refine y_next (xst_of (i := (.ifCond .eq 13)) (len := 3) rfl rfl (xt_if_eq (t := 58) rfl hc)) ?_
    exact H _ _ R e0 e1 e2 e3 e4 e5 e6 e7 e8
  · replace H := H.2 hc
    refine y_next (pc' := 48) (xst_of (i := (.ifCond .eq 13)) (len := 3) rfl rfl (xf_if_eq (t := 58) rfl hc)) ?_
    refine y_next (pc' := 49) (xst_of (i := (.aload_n 0)) (len := 1) rfl rfl (x_aloadV (xisV_r _) e0)) ?_
    refine z_gA (t := (10, 0, 0)) (k := 24) rfl rfl rfl R (rc_10 R) ?_
    refine y_next (pc' := 53) (xst_of (i := (.iload_n 3)) (len := 1) rfl rfl (x_ilo e3)) ?_
    refine z_aI (t := (10, 0, 0)) (k := 24) (n := 8) (i := x4) rfl rfl R (rc_10 R) H.1 ?_
    replace H := H.2
    refine y_next (pc' := 55) (xst_of (i := (.iconst 1)) (len := 1) rfl rfl (x_ico (v := 1) (by decide))) ?_
    by_cases hc : (fA Y9 (10, 0, 0) 24 (Int32.toNatClampNeg x4)) = 1
    · replace H := H.1 hc
      refine y_next (pc' := 58) (xst_of (i := (.if_icmp .ne 39)) (len := 3) rfl rfl (xf_icmp_ne (t := 94) rfl (fun z => z hc))) ?_
      exact H _ _ R e0 e1 e2 e3 e4 e5 e6 e7 e8
    · replace H := H.2 hc
      refine y_next (xst_of (i := (.if_icmp .ne 39)) (len := 3) rfl rfl (xt_icmp_ne (t := 94) rfl hc)) ?_
      exact H _ _ R e0 e1 e2 e3 e4 e5 e6 e7 e8
set_option maxRecDepth 20000 in
theorem l_159_58 {V : xV} {g : xG} {Y : xW} {l1 : Int32} {l2 : Int32} {l3 : Int32} {l4 : Int32} {l5 : Int32} {l6 : Int32} {l7 : Int32} {l8 : Int32} {Q : xW → Prop} (H : (((l8 &&& 2) = 0) → L_159_76 V g Y l1 l2 l3 l4 l5 l6 l7 l8 Q) ∧ (¬ ((l8 &&& 2) = 0) → vp_in l4 8 ∧ (((fA Y (10, 0, 0) 24 (Int32.toNatClampNeg l4)) = 1) → L_159_76 V g Y l1 l2 l3 l4 l5 l6 l7 l8 Q) ∧ (¬ ((fA Y (10, 0, 0) 24 (Int32.toNatClampNeg l4)) = 1) → L_159_94 V g Y l1 l2 l3 l4 l5 l6 l7 l8 Q))) : L_159_58 V g Y l1 l2 l3 l4 l5 l6 l7 l8 Q := by
  intro h lv R e0 e1 e2 e3 e4 e5 e6 e7 e8
  refine y_next (pc' := 60) (xst_of (i := (.iload 8)) (len := 2) rfl rfl (x_ilo e8)) ?_
  refine y_next (pc' := 61) (xst_of (i := (.iconst 2)) (len := 1) rfl rfl (x_ico (v := 2) (by decide))) ?_
  refine y_next (pc' := 62) (xst_of (i := .iand) (len := 1) rfl rfl rfl) ?_
  by_cases hc : (l8 &&& 2) = 0
  · replace H := H.1 hc
    refine y_next (xst_of (i := (.ifCond .eq 14)) (len := 3) rfl rfl (xt_if_eq (t := 76) rfl hc)) ?_
    exact H _ _ R e0 e1 e2 e3 e4 e5 e6 e7 e8
  · replace H := H.2 hc
    refine y_next (pc' := 65) (xst_of (i := (.ifCond .eq 14)) (len := 3) rfl rfl (xf_if_eq (t := 76) rfl hc)) ?_
    refine y_next (pc' := 66) (xst_of (i := (.aload_n 0)) (len := 1) rfl rfl (x_aloadV (xisV_r _) e0)) ?_
    refine z_gA (t := (10, 0, 0)) (k := 24) rfl rfl rfl R (rc_10 R) ?_
    refine y_next (pc' := 71) (xst_of (i := (.iload 4)) (len := 2) rfl rfl (x_ilo e4)) ?_
    refine z_aI (t := (10, 0, 0)) (k := 24) (n := 8) (i := l4) rfl rfl R (rc_10 R) H.1 ?_
    replace H := H.2
    refine y_next (pc' := 73) (xst_of (i := (.iconst 1)) (len := 1) rfl rfl (x_ico (v := 1) (by decide))) ?_
    by_cases hc : (fA Y (10, 0, 0) 24 (Int32.toNatClampNeg l4)) = 1
    · replace H := H.1 hc
      refine y_next (pc' := 76) (xst_of (i := (.if_icmp .ne 21)) (len := 3) rfl rfl (xf_icmp_ne (t := 94) rfl (fun z => z hc))) ?_
      exact H _ _ R e0 e1 e2 e3 e4 e5 e6 e7 e8
    · replace H := H.2 hc
      refine y_next (xst_of (i := (.if_icmp .ne 21)) (len := 3) rfl rfl (xt_icmp_ne (t := 94) rfl hc)) ?_
      exact H _ _ R e0 e1 e2 e3 e4 e5 e6 e7 e8
set_option maxRecDepth 20000 in
theorem l_159_76 {V : xV} {g : xG} {Y : xW} {l1 : Int32} {l2 : Int32} {l3 : Int32} {l4 : Int32} {l5 : Int32} {l6 : Int32} {l7 : Int32} {l8 : Int32} {Q : xW → Prop} (H : (((l8 &&& 4) = 0) → L_159_99 V g Y l1 l2 l3 l4 l5 l6 l7 l8 Q) ∧ (¬ ((l8 &&& 4) = 0) → vp_in l5 8 ∧ (((fA Y (10, 0, 0) 24 (Int32.toNatClampNeg l5)) = 1) → L_159_99 V g Y l1 l2 l3 l4 l5 l6 l7 l8 Q) ∧ (¬ ((fA Y (10, 0, 0) 24 (Int32.toNatClampNeg l5)) = 1) → L_159_94 V g Y l1 l2 l3 l4 l5 l6 l7 l8 Q))) : L_159_76 V g Y l1 l2 l3 l4 l5 l6 l7 l8 Q := by
  intro h lv R e0 e1 e2 e3 e4 e5 e6 e7 e8
  refine y_next (pc' := 78) (xst_of (i := (.iload 8)) (len := 2) rfl rfl (x_ilo e8)) ?_
  refine y_next (pc' := 79) (xst_of (i := (.iconst 4)) (len := 1) rfl rfl (x_ico (v := 4) (by decide))) ?_
  refine y_next (pc' := 80) (xst_of (i := .iand) (len := 1) rfl rfl rfl) ?_
  by_cases hc : (l8 &&& 4) = 0
  · replace H := H.1 hc
    refine y_next (xst_of (i := (.ifCond .eq 19)) (len := 3) rfl rfl (xt_if_eq (t := 99) rfl hc)) ?_
    exact H _ _ R e0 e1 e2 e3 e4 e5 e6 e7 e8
  · replace H := H.2 hc
    refine y_next (pc' := 83) (xst_of (i := (.ifCond .eq 19)) (len := 3) rfl rfl (xf_if_eq (t := 99) rfl hc)) ?_
    refine y_next (pc' := 84) (xst_of (i := (.aload_n 0)) (len := 1) rfl rfl (x_aloadV (xisV_r _) e0)) ?_
    refine z_gA (t := (10, 0, 0)) (k := 24) rfl rfl rfl R (rc_10 R) ?_
    refine y_next (pc' := 89) (xst_of (i := (.iload 5)) (len := 2) rfl rfl (x_ilo e5)) ?_
    refine z_aI (t := (10, 0, 0)) (k := 24) (n := 8) (i := l5) rfl rfl R (rc_10 R) H.1 ?_
    replace H := H.2
    refine y_next (pc' := 91) (xst_of (i := (.iconst 1)) (len := 1) rfl rfl (x_ico (v := 1) (by decide))) ?_
    by_cases hc : (fA Y (10, 0, 0) 24 (Int32.toNatClampNeg l5)) = 1
    · replace H := H.1 hc
      refine y_next (xst_of (i := (.if_icmp .eq 8)) (len := 3) rfl rfl (xt_icmp_eq (t := 99) rfl hc)) ?_
      exact H _ _ R e0 e1 e2 e3 e4 e5 e6 e7 e8
    · replace H := H.2 hc
      refine y_next (pc' := 94) (xst_of (i := (.if_icmp .eq 8)) (len := 3) rfl rfl (xf_icmp_eq (t := 99) rfl hc)) ?_
      exact H _ _ R e0 e1 e2 e3 e4 e5 e6 e7 e8
set_option maxRecDepth 20000 in
theorem l_159_94 {V : xV} {g : xG} {Y : xW} {l1 : Int32} {l2 : Int32} {l3 : Int32} {l4 : Int32} {l5 : Int32} {l6 : Int32} {l7 : Int32} {l8 : Int32} {Q : xW → Prop} (H : L_141_0 V g Y 2 (fun Y1 => L_159_99 V g Y1 l1 l2 l3 l4 l5 l6 l7 l8 Q)) : L_159_94 V g Y l1 l2 l3 l4 l5 l6 l7 l8 Q := by
  intro h lv R e0 e1 e2 e3 e4 e5 e6 e7 e8
  refine y_next (pc' := 95) (xst_of (i := (.aload_n 0)) (len := 1) rfl rfl (x_aloadV (xisV_r _) e0)) ?_
  refine y_next (pc' := 96) (xst_of (i := (.iconst 2)) (len := 1) rfl rfl (x_ico (v := 2) (by decide))) ?_
  refine z_cN (k := 141) (i := (.invokevirtual 187)) (as := [.ref (g.2 (10, 0, 0) 0), .int 2]) (rest := []) rfl rfl (x_callv rfl rfl (rc_ob R (rc_10 R) rfl) rfl rfl) (H _ _ R rfl rfl) (fun h Y1 R H => ?_)
  exact H _ _ R e0 e1 e2 e3 e4 e5 e6 e7 e8
set_option maxRecDepth 20000 in
theorem l_159_99 {V : xV} {g : xG} {Y : xW} {l1 : Int32} {l2 : Int32} {l3 : Int32} {l4 : Int32} {l5 : Int32} {l6 : Int32} {l7 : Int32} {l8 : Int32} {Q : xW → Prop} (H : (((fI Y (10, 0, 0) 29) = 0) → ((0 : Int32) = 0 ∨ (0 : Int32) = 1) ∧ ∀ Y1, Y1 = uI Y (10, 0, 0) 27 0 → ((l2 = 0 → Q Y1) ∧ (l2 = 1 → L_159_513 V g Y1 l1 l2 l3 l4 l5 l6 l7 l8 Q) ∧ (l2 = 2 → L_147_0 V g Y1 l3 1 (Int32.toInt64 l7) (Int32.toInt64 l7) (fun Y2 => L_159_513 V g Y2 l1 l2 l3 l4 l5 l6 l7 l8 Q)) ∧ (l2 = 3 → vp_in l4 8 ∧ vp_in l3 8 ∧ ∀ Y3, Y3 = uA Y1 (10, 0, 0) 24 (Int32.toNatClampNeg l3) (fA Y1 (10, 0, 0) 24 (Int32.toNatClampNeg l4)) → vp_in l4 8 ∧ vp_in l3 8 ∧ ∀ Y4, Y4 = uA Y3 (10, 0, 0) 25 (Int32.toNatClampNeg l3) (fA Y3 (10, 0, 0) 25 (Int32.toNatClampNeg l4)) → vp_in l4 8 ∧ vp_in l3 8 ∧ ∀ Y5, Y5 = uA Y4 (10, 0, 0) 26 (Int32.toNatClampNeg l3) (fA Y4 (10, 0, 0) 26 (Int32.toNatClampNeg l4)) → L_159_513 V g Y5 l1 l2 l3 l4 l5 l6 l7 l8 Q) ∧ (l2 = 4 → L_159_270 V g Y1 l1 l2 l3 l4 l5 l6 l7 l8 Q) ∧ (l2 = 5 → L_159_270 V g Y1 l1 l2 l3 l4 l5 l6 l7 l8 Q) ∧ (l2 = 6 → L_159_270 V g Y1 l1 l2 l3 l4 l5 l6 l7 l8 Q) ∧ (l2 = 7 → L_159_270 V g Y1 l1 l2 l3 l4 l5 l6 l7 l8 Q) ∧ (l2 = 8 → L_159_270 V g Y1 l1 l2 l3 l4 l5 l6 l7 l8 Q) ∧ (l2 = 9 → vp_in l4 8 ∧ (((fA Y1 (10, 0, 0) 24 (Int32.toNatClampNeg l4)) = 0) → L_141_0 V g Y1 2 (fun Y6 => L_159_513 V g Y6 l1 l2 l3 l4 l5 l6 l7 l8 Q)) ∧ (¬ ((fA Y1 (10, 0, 0) 24 (Int32.toNatClampNeg l4)) = 0) → L_149_0 V g Y1 l3 l4 (Int32.toInt64 l7) (Int32.toInt64 l7) (fun Y7 => L_159_513 V g Y7 l1 l2 l3 l4 l5 l6 l7 l8 Q))) ∧ (l2 = 10 → L_147_0 V g Y1 l3 1 0 (Int32.toInt64 l6) (fun Y8 => L_159_513 V g Y8 l1 l2 l3 l4 l5 l6 l7 l8 Q)) ∧ (l2 = 11 → vp_in l4 8 ∧ vp_in l4 8 ∧ L_147_0 V g Y1 l3 1 (Int32.toInt64 ((fA Y1 (10, 0, 0) 25 (Int32.toNatClampNeg l4)) >>> (l6 &&& 31))) (Int32.toInt64 ((fA Y1 (10, 0, 0) 26 (Int32.toNatClampNeg l4)) >>> (l6 &&& 31))) (fun Y9 => L_159_513 V g Y9 l1 l2 l3 l4 l5 l6 l7 l8 Q)) ∧ (l2 = 12 → L_147_0 V g Y1 l3 2 (Int32.toInt64 l6) (Int32.toInt64 l6) (fun Y10 => L_159_513 V g Y10 l1 l2 l3 l4 l5 l6 l7 l8 Q)) ∧ (l2 = 13 → L_159_376 V g Y1 l1 l2 l3 l4 l5 l6 l7 l8 Q) ∧ (l2 = 14 → L_159_376 V g Y1 l1 l2 l3 l4 l5 l6 l7 l8 Q) ∧ (l2 = 15 → L_145_0 V g Y1 l6 (fun Y11 => Q Y11)) ∧ (l2 = 16 → L_159_396 V g Y1 l1 l2 l3 l4 l5 l6 l7 l8 Q) ∧ (l2 = 17 → L_159_396 V g Y1 l1 l2 l3 l4 l5 l6 l7 l8 Q) ∧ (l2 = 18 → vp_in (fI Y1 (10, 0, 0) 5) 24 ∧ (((fA Y1 (10, 0, 0) 9 (Int32.toNatClampNeg (fI Y1 (10, 0, 0) 5))) ≤ l6) → L_159_430 V g Y1 l1 l2 l3 l4 l5 l6 l7 l8 Q) ∧ (¬ ((fA Y1 (10, 0, 0) 9 (Int32.toNatClampNeg (fI Y1 (10, 0, 0) 5))) ≤ l6) → (((fI Y1 (10, 0, 0) 30) < l6) → L_157_0 V g Y1 (fI Y1 (10, 0, 0) 5) l6 (fun Y12 => L_159_449 V g Y12 l1 l2 l3 l4 l5 l6 l7 l8 Q)) ∧ (¬ ((fI Y1 (10, 0, 0) 30) < l6) → L_159_430 V g Y1 l1 l2 l3 l4 l5 l6 l7 l8 Q))) ∧ (l2 = 19 → vp_in (fI Y1 (10, 0, 0) 5) 24 ∧ ((l6 < (fA Y1 (10, 0, 0) 10 (Int32.toNatClampNeg (fI Y1 (10, 0, 0) 5)))) → vp_in ((8 * (fI Y1 (10, 0, 0) 5)) + l6) 192 ∧ vp_in ((8 * (fI Y1 (10, 0, 0) 5)) + l6) 192 ∧ L_157_0 V g Y1 (fA Y1 (10, 0, 0) 22 (Int32.toNatClampNeg ((8 * (fI Y1 (10, 0, 0) 5)) + l6))) (fA Y1 (10, 0, 0) 23 (Int32.toNatClampNeg ((8 * (fI Y1 (10, 0, 0) 5)) + l6))) (fun Y13 => L_159_507 V g Y13 l1 l2 l3 l4 l5 l6 l7 l8 Q)) ∧ (¬ (l6 < (fA Y1 (10, 0, 0) 10 (Int32.toNatClampNeg (fI Y1 (10, 0, 0) 5)))) → L_141_0 V g Y1 8 (fun Y14 => L_159_507 V g Y14 l1 l2 l3 l4 l5 l6 l7 l8 Q))) ∧ (l2 = 20 → L_158_0 V g Y1  (fun Y15 => Q Y15))) ∧ ((Int32.toInt l2 < 0 ∨ 20 < Int32.toInt l2) → L_159_513 V g Y1 l1 l2 l3 l4 l5 l6 l7 l8 Q)) ∧ (¬ ((fI Y (10, 0, 0) 29) = 0) → Q Y)) : L_159_99 V g Y l1 l2 l3 l4 l5 l6 l7 l8 Q := by
  intro h lv R e0 e1 e2 e3 e4 e5 e6 e7 e8
  refine y_next (pc' := 100) (xst_of (i := (.aload_n 0)) (len := 1) rfl rfl (x_aloadV (xisV_r _) e0)) ?_
  refine z_gI (t := (10, 0, 0)) (k := 29) rfl rfl rfl R (rc_10 R) ?_
  by_cases hc : (fI Y (10, 0, 0) 29) = 0
  · replace H := H.1 hc
    refine y_next (xst_of (i := (.ifCond .eq 4)) (len := 3) rfl rfl (xt_if_eq (t := 107) rfl hc)) ?_
    refine y_next (pc' := 108) (xst_of (i := (.aload_n 0)) (len := 1) rfl rfl (x_aloadV (xisV_r _) e0)) ?_
    refine y_next (pc' := 109) (xst_of (i := (.iconst 0)) (len := 1) rfl rfl (x_ico (v := 0) (by decide))) ?_
    have hz := H.1
    replace H := H.2
    refine z_pI (t := (10, 0, 0)) (k := 27) rfl rfl rfl (xfit_z hz) rfl R (rc_10 R) (fun h Y1 hY R => ?_)
    replace H := H Y1 hY
    clear hY
    refine y_next (pc' := 113) (xst_of (i := (.iload_n 2)) (len := 1) rfl rfl (x_ilo e2)) ?_
    by_cases hx : Int32.toInt l2 < 0 ∨ 20 < Int32.toInt l2
    · replace H := H.2 hx
      refine y_next (xst_of (i := (.tableswitch 400 0 20 #[99, 400, 100, 115, 157, 157, 157, 157, 157, 170, 204, 217, 248, 263, 263, 276, 283, 283, 294, 337, 395])) (len := 99) rfl rfl (x_sw_out (t := 513) hx rfl)) ?_
      exact H _ _ R e0 e1 e2 e3 e4 e5 e6 e7 e8
    · replace H := H.1
      have hy : Int32.toInt l2 = 0 ∨ Int32.toInt l2 = 1 ∨ Int32.toInt l2 = 2 ∨ Int32.toInt l2 = 3 ∨ Int32.toInt l2 = 4 ∨ Int32.toInt l2 = 5 ∨ Int32.toInt l2 = 6 ∨ Int32.toInt l2 = 7 ∨ Int32.toInt l2 = 8 ∨ Int32.toInt l2 = 9 ∨ Int32.toInt l2 = 10 ∨ Int32.toInt l2 = 11 ∨ Int32.toInt l2 = 12 ∨ Int32.toInt l2 = 13 ∨ Int32.toInt l2 = 14 ∨ Int32.toInt l2 = 15 ∨ Int32.toInt l2 = 16 ∨ Int32.toInt l2 = 17 ∨ Int32.toInt l2 = 18 ∨ Int32.toInt l2 = 19 ∨ Int32.toInt l2 = 20 := by omega
      rcases hy with hy | hy | hy | hy | hy | hy | hy | hy | hy | hy | hy | hy | hy | hy | hy | hy | hy | hy | hy | hy | hy
      · replace H := H.1
        have hz : l2 = 0 := Int32.toInt_inj.mp (hy.trans rfl)
        replace H := H hz
        refine y_next (xst_of (i := (.tableswitch 400 0 20 #[99, 400, 100, 115, 157, 157, 157, 157, 157, 170, 204, 217, 248, 263, 263, 276, 283, 283, 294, 337, 395])) (len := 99) rfl rfl (x_sw_in (t := 212) hx (by rw [hy]; rfl) rfl)) ?_
        exact y_ret (xst_of (i := .return_) (len := 1) rfl rfl rfl) ⟨_, rfl, R, H⟩
      · replace H := H.2.1
        have hz : l2 = 1 := Int32.toInt_inj.mp (hy.trans rfl)
        replace H := H hz
        refine y_next (xst_of (i := (.tableswitch 400 0 20 #[99, 400, 100, 115, 157, 157, 157, 157, 157, 170, 204, 217, 248, 263, 263, 276, 283, 283, 294, 337, 395])) (len := 99) rfl rfl (x_sw_in (t := 513) hx (by rw [hy]; rfl) rfl)) ?_
        exact H _ _ R e0 e1 e2 e3 e4 e5 e6 e7 e8
      · replace H := H.2.2.1
        have hz : l2 = 2 := Int32.toInt_inj.mp (hy.trans rfl)
        replace H := H hz
        refine y_next (xst_of (i := (.tableswitch 400 0 20 #[99, 400, 100, 115, 157, 157, 157, 157, 157, 170, 204, 217, 248, 263, 263, 276, 283, 283, 294, 337, 395])) (len := 99) rfl rfl (x_sw_in (t := 213) hx (by rw [hy]; rfl) rfl)) ?_
        refine y_next (pc' := 214) (xst_of (i := (.aload_n 0)) (len := 1) rfl rfl (x_aloadV (xisV_r _) e0)) ?_
        refine y_next (pc' := 215) (xst_of (i := (.iload_n 3)) (len := 1) rfl rfl (x_ilo e3)) ?_
        refine y_next (pc' := 216) (xst_of (i := (.iconst 1)) (len := 1) rfl rfl (x_ico (v := 1) (by decide))) ?_
        refine y_next (pc' := 218) (xst_of (i := (.iload 7)) (len := 2) rfl rfl (x_ilo e7)) ?_
        refine y_next (pc' := 219) (xst_of (i := .i2l) (len := 1) rfl rfl rfl) ?_
        refine y_next (pc' := 221) (xst_of (i := (.iload 7)) (len := 2) rfl rfl (x_ilo e7)) ?_
        refine y_next (pc' := 222) (xst_of (i := .i2l) (len := 1) rfl rfl rfl) ?_
        refine z_cN (k := 147) (i := (.invokevirtual 216)) (as := [.ref (g.2 (10, 0, 0) 0), .int l3, .int 1, .long (Int32.toInt64 l7), .long (Int32.toInt64 l7)]) (rest := []) rfl rfl (x_callv rfl rfl (rc_ob R (rc_10 R) rfl) rfl rfl) (H _ _ R rfl rfl rfl rfl rfl) (fun h Y2 R H => ?_)
        refine y_next (pc' := 513) (xst_of (i := (.goto 288)) (len := 3) rfl rfl rfl) ?_
        exact H _ _ R e0 e1 e2 e3 e4 e5 e6 e7 e8
      · replace H := H.2.2.2.1
        have hz : l2 = 3 := Int32.toInt_inj.mp (hy.trans rfl)
        replace H := H hz
        refine y_next (xst_of (i := (.tableswitch 400 0 20 #[99, 400, 100, 115, 157, 157, 157, 157, 157, 170, 204, 217, 248, 263, 263, 276, 283, 283, 294, 337, 395])) (len := 99) rfl rfl (x_sw_in (t := 228) hx (by rw [hy]; rfl) rfl)) ?_
        refine y_next (pc' := 229) (xst_of (i := (.aload_n 0)) (len := 1) rfl rfl (x_aloadV (xisV_r _) e0)) ?_
        refine z_gA (t := (10, 0, 0)) (k := 24) rfl rfl rfl R (rc_10 R) ?_
        refine y_next (pc' := 233) (xst_of (i := (.iload_n 3)) (len := 1) rfl rfl (x_ilo e3)) ?_
        refine y_next (pc' := 234) (xst_of (i := (.aload_n 0)) (len := 1) rfl rfl (x_aloadV (xisV_r _) e0)) ?_
        refine z_gA (t := (10, 0, 0)) (k := 24) rfl rfl rfl R (rc_10 R) ?_
        refine y_next (pc' := 239) (xst_of (i := (.iload 4)) (len := 2) rfl rfl (x_ilo e4)) ?_
        refine z_aI (t := (10, 0, 0)) (k := 24) (n := 8) (i := l4) rfl rfl R (rc_10 R) H.1 ?_
        replace H := H.2
        refine z_sI (t := (10, 0, 0)) (k := 24) (n := 8) (i := l3) rfl rfl R (rc_10 R) H.1 (fun h Y3 hY R => ?_)
        replace H := H.2 Y3 hY
        clear hY
        refine y_next (pc' := 242) (xst_of (i := (.aload_n 0)) (len := 1) rfl rfl (x_aloadV (xisV_r _) e0)) ?_
        refine z_gA (t := (10, 0, 0)) (k := 25) rfl rfl rfl R (rc_10 R) ?_
        refine y_next (pc' := 246) (xst_of (i := (.iload_n 3)) (len := 1) rfl rfl (x_ilo e3)) ?_
        refine y_next (pc' := 247) (xst_of (i := (.aload_n 0)) (len := 1) rfl rfl (x_aloadV (xisV_r _) e0)) ?_
        refine z_gA (t := (10, 0, 0)) (k := 25) rfl rfl rfl R (rc_10 R) ?_
        refine y_next (pc' := 252) (xst_of (i := (.iload 4)) (len := 2) rfl rfl (x_ilo e4)) ?_
        refine z_aI (t := (10, 0, 0)) (k := 25) (n := 8) (i := l4) rfl rfl R (rc_10 R) H.1 ?_
        replace H := H.2
        refine z_sI (t := (10, 0, 0)) (k := 25) (n := 8) (i := l3) rfl rfl R (rc_10 R) H.1 (fun h Y4 hY R => ?_)
        replace H := H.2 Y4 hY
        clear hY
        refine y_next (pc' := 255) (xst_of (i := (.aload_n 0)) (len := 1) rfl rfl (x_aloadV (xisV_r _) e0)) ?_
        refine z_gA (t := (10, 0, 0)) (k := 26) rfl rfl rfl R (rc_10 R) ?_
        refine y_next (pc' := 259) (xst_of (i := (.iload_n 3)) (len := 1) rfl rfl (x_ilo e3)) ?_
        refine y_next (pc' := 260) (xst_of (i := (.aload_n 0)) (len := 1) rfl rfl (x_aloadV (xisV_r _) e0)) ?_
        refine z_gA (t := (10, 0, 0)) (k := 26) rfl rfl rfl R (rc_10 R) ?_
        refine y_next (pc' := 265) (xst_of (i := (.iload 4)) (len := 2) rfl rfl (x_ilo e4)) ?_
        refine z_aI (t := (10, 0, 0)) (k := 26) (n := 8) (i := l4) rfl rfl R (rc_10 R) H.1 ?_
        replace H := H.2
        refine z_sI (t := (10, 0, 0)) (k := 26) (n := 8) (i := l3) rfl rfl R (rc_10 R) H.1 (fun h Y5 hY R => ?_)
        replace H := H.2 Y5 hY
        clear hY
        refine y_next (pc' := 513) (xst_of (i := (.goto 246)) (len := 3) rfl rfl rfl) ?_
        exact H _ _ R e0 e1 e2 e3 e4 e5 e6 e7 e8
      · replace H := H.2.2.2.2.1
        have hz : l2 = 4 := Int32.toInt_inj.mp (hy.trans rfl)
        replace H := H hz
        refine y_next (xst_of (i := (.tableswitch 400 0 20 #[99, 400, 100, 115, 157, 157, 157, 157, 157, 170, 204, 217, 248, 263, 263, 276, 283, 283, 294, 337, 395])) (len := 99) rfl rfl (x_sw_in (t := 270) hx (by rw [hy]; rfl) rfl)) ?_
        exact H _ _ R e0 e1 e2 e3 e4 e5 e6 e7 e8
      · replace H := H.2.2.2.2.2.1
        have hz : l2 = 5 := Int32.toInt_inj.mp (hy.trans rfl)
        replace H := H hz
        refine y_next (xst_of (i := (.tableswitch 400 0 20 #[99, 400, 100, 115, 157, 157, 157, 157, 157, 170, 204, 217, 248, 263, 263, 276, 283, 283, 294, 337, 395])) (len := 99) rfl rfl (x_sw_in (t := 270) hx (by rw [hy]; rfl) rfl)) ?_
        exact H _ _ R e0 e1 e2 e3 e4 e5 e6 e7 e8
      · replace H := H.2.2.2.2.2.2.1
        have hz : l2 = 6 := Int32.toInt_inj.mp (hy.trans rfl)
        replace H := H hz
        refine y_next (xst_of (i := (.tableswitch 400 0 20 #[99, 400, 100, 115, 157, 157, 157, 157, 157, 170, 204, 217, 248, 263, 263, 276, 283, 283, 294, 337, 395])) (len := 99) rfl rfl (x_sw_in (t := 270) hx (by rw [hy]; rfl) rfl)) ?_
        exact H _ _ R e0 e1 e2 e3 e4 e5 e6 e7 e8
      · replace H := H.2.2.2.2.2.2.2.1
        have hz : l2 = 7 := Int32.toInt_inj.mp (hy.trans rfl)
        replace H := H hz
        refine y_next (xst_of (i := (.tableswitch 400 0 20 #[99, 400, 100, 115, 157, 157, 157, 157, 157, 170, 204, 217, 248, 263, 263, 276, 283, 283, 294, 337, 395])) (len := 99) rfl rfl (x_sw_in (t := 270) hx (by rw [hy]; rfl) rfl)) ?_
        exact H _ _ R e0 e1 e2 e3 e4 e5 e6 e7 e8
      · replace H := H.2.2.2.2.2.2.2.2.1
        have hz : l2 = 8 := Int32.toInt_inj.mp (hy.trans rfl)
        replace H := H hz
        refine y_next (xst_of (i := (.tableswitch 400 0 20 #[99, 400, 100, 115, 157, 157, 157, 157, 157, 170, 204, 217, 248, 263, 263, 276, 283, 283, 294, 337, 395])) (len := 99) rfl rfl (x_sw_in (t := 270) hx (by rw [hy]; rfl) rfl)) ?_
        exact H _ _ R e0 e1 e2 e3 e4 e5 e6 e7 e8
      · replace H := H.2.2.2.2.2.2.2.2.2.1
        have hz : l2 = 9 := Int32.toInt_inj.mp (hy.trans rfl)
        replace H := H hz
        refine y_next (xst_of (i := (.tableswitch 400 0 20 #[99, 400, 100, 115, 157, 157, 157, 157, 157, 170, 204, 217, 248, 263, 263, 276, 283, 283, 294, 337, 395])) (len := 99) rfl rfl (x_sw_in (t := 283) hx (by rw [hy]; rfl) rfl)) ?_
        refine y_next (pc' := 284) (xst_of (i := (.aload_n 0)) (len := 1) rfl rfl (x_aloadV (xisV_r _) e0)) ?_
        refine z_gA (t := (10, 0, 0)) (k := 24) rfl rfl rfl R (rc_10 R) ?_
        refine y_next (pc' := 289) (xst_of (i := (.iload 4)) (len := 2) rfl rfl (x_ilo e4)) ?_
        refine z_aI (t := (10, 0, 0)) (k := 24) (n := 8) (i := l4) rfl rfl R (rc_10 R) H.1 ?_
        replace H := H.2
        by_cases hc : (fA Y1 (10, 0, 0) 24 (Int32.toNatClampNeg l4)) = 0
        · replace H := H.1 hc
          refine y_next (pc' := 293) (xst_of (i := (.ifCond .ne 11)) (len := 3) rfl rfl (xf_if_ne (t := 301) rfl (fun z => z hc))) ?_
          refine y_next (pc' := 294) (xst_of (i := (.aload_n 0)) (len := 1) rfl rfl (x_aloadV (xisV_r _) e0)) ?_
          refine y_next (pc' := 295) (xst_of (i := (.iconst 2)) (len := 1) rfl rfl (x_ico (v := 2) (by decide))) ?_
          refine z_cN (k := 141) (i := (.invokevirtual 187)) (as := [.ref (g.2 (10, 0, 0) 0), .int 2]) (rest := []) rfl rfl (x_callv rfl rfl (rc_ob R (rc_10 R) rfl) rfl rfl) (H _ _ R rfl rfl) (fun h Y6 R H => ?_)
          refine y_next (pc' := 513) (xst_of (i := (.goto 215)) (len := 3) rfl rfl rfl) ?_
          exact H _ _ R e0 e1 e2 e3 e4 e5 e6 e7 e8
        · replace H := H.2 hc
          refine y_next (xst_of (i := (.ifCond .ne 11)) (len := 3) rfl rfl (xt_if_ne (t := 301) rfl hc)) ?_
          refine y_next (pc' := 302) (xst_of (i := (.aload_n 0)) (len := 1) rfl rfl (x_aloadV (xisV_r _) e0)) ?_
          refine y_next (pc' := 303) (xst_of (i := (.iload_n 3)) (len := 1) rfl rfl (x_ilo e3)) ?_
          refine y_next (pc' := 305) (xst_of (i := (.iload 4)) (len := 2) rfl rfl (x_ilo e4)) ?_
          refine y_next (pc' := 307) (xst_of (i := (.iload 7)) (len := 2) rfl rfl (x_ilo e7)) ?_
          refine y_next (pc' := 308) (xst_of (i := .i2l) (len := 1) rfl rfl rfl) ?_
          refine y_next (pc' := 310) (xst_of (i := (.iload 7)) (len := 2) rfl rfl (x_ilo e7)) ?_
          refine y_next (pc' := 311) (xst_of (i := .i2l) (len := 1) rfl rfl rfl) ?_
          refine z_cN (k := 149) (i := (.invokevirtual 233)) (as := [.ref (g.2 (10, 0, 0) 0), .int l3, .int l4, .long (Int32.toInt64 l7), .long (Int32.toInt64 l7)]) (rest := []) rfl rfl (x_callv rfl rfl (rc_ob R (rc_10 R) rfl) rfl rfl) (H _ _ R rfl rfl rfl rfl rfl) (fun h Y7 R H => ?_)
          refine y_next (pc' := 513) (xst_of (i := (.goto 199)) (len := 3) rfl rfl rfl) ?_
          exact H _ _ R e0 e1 e2 e3 e4 e5 e6 e7 e8
      · replace H := H.2.2.2.2.2.2.2.2.2.2.1
        have hz : l2 = 10 := Int32.toInt_inj.mp (hy.trans rfl)
        replace H := H hz
        refine y_next (xst_of (i := (.tableswitch 400 0 20 #[99, 400, 100, 115, 157, 157, 157, 157, 157, 170, 204, 217, 248, 263, 263, 276, 283, 283, 294, 337, 395])) (len := 99) rfl rfl (x_sw_in (t := 317) hx (by rw [hy]; rfl) rfl)) ?_
        refine y_next (pc' := 318) (xst_of (i := (.aload_n 0)) (len := 1) rfl rfl (x_aloadV (xisV_r _) e0)) ?_
        refine y_next (pc' := 319) (xst_of (i := (.iload_n 3)) (len := 1) rfl rfl (x_ilo e3)) ?_
        refine y_next (pc' := 320) (xst_of (i := (.iconst 1)) (len := 1) rfl rfl (x_ico (v := 1) (by decide))) ?_
        refine y_next (pc' := 321) (xst_of (i := (.lconst 0)) (len := 1) rfl rfl (x_lco (v := 0) (by decide))) ?_
        refine y_next (pc' := 323) (xst_of (i := (.iload 6)) (len := 2) rfl rfl (x_ilo e6)) ?_
        refine y_next (pc' := 324) (xst_of (i := .i2l) (len := 1) rfl rfl rfl) ?_
        refine z_cN (k := 147) (i := (.invokevirtual 216)) (as := [.ref (g.2 (10, 0, 0) 0), .int l3, .int 1, .long 0, .long (Int32.toInt64 l6)]) (rest := []) rfl rfl (x_callv rfl rfl (rc_ob R (rc_10 R) rfl) rfl rfl) (H _ _ R rfl rfl rfl rfl rfl) (fun h Y8 R H => ?_)
        refine y_next (pc' := 513) (xst_of (i := (.goto 186)) (len := 3) rfl rfl rfl) ?_
        exact H _ _ R e0 e1 e2 e3 e4 e5 e6 e7 e8
      · replace H := H.2.2.2.2.2.2.2.2.2.2.2.1
        have hz : l2 = 11 := Int32.toInt_inj.mp (hy.trans rfl)
        replace H := H hz
        refine y_next (xst_of (i := (.tableswitch 400 0 20 #[99, 400, 100, 115, 157, 157, 157, 157, 157, 170, 204, 217, 248, 263, 263, 276, 283, 283, 294, 337, 395])) (len := 99) rfl rfl (x_sw_in (t := 330) hx (by rw [hy]; rfl) rfl)) ?_
        refine y_next (pc' := 331) (xst_of (i := (.aload_n 0)) (len := 1) rfl rfl (x_aloadV (xisV_r _) e0)) ?_
        refine y_next (pc' := 332) (xst_of (i := (.iload_n 3)) (len := 1) rfl rfl (x_ilo e3)) ?_
        refine y_next (pc' := 333) (xst_of (i := (.iconst 1)) (len := 1) rfl rfl (x_ico (v := 1) (by decide))) ?_
        refine y_next (pc' := 334) (xst_of (i := (.aload_n 0)) (len := 1) rfl rfl (x_aloadV (xisV_r _) e0)) ?_
        refine z_gA (t := (10, 0, 0)) (k := 25) rfl rfl rfl R (rc_10 R) ?_
        refine y_next (pc' := 339) (xst_of (i := (.iload 4)) (len := 2) rfl rfl (x_ilo e4)) ?_
        refine z_aI (t := (10, 0, 0)) (k := 25) (n := 8) (i := l4) rfl rfl R (rc_10 R) H.1 ?_
        replace H := H.2
        refine y_next (pc' := 342) (xst_of (i := (.iload 6)) (len := 2) rfl rfl (x_ilo e6)) ?_
        refine y_next (pc' := 343) (xst_of (i := .ishr) (len := 1) rfl rfl rfl) ?_
        refine y_next (pc' := 344) (xst_of (i := .i2l) (len := 1) rfl rfl rfl) ?_
        refine y_next (pc' := 345) (xst_of (i := (.aload_n 0)) (len := 1) rfl rfl (x_aloadV (xisV_r _) e0)) ?_
        refine z_gA (t := (10, 0, 0)) (k := 26) rfl rfl rfl R (rc_10 R) ?_
        refine y_next (pc' := 350) (xst_of (i := (.iload 4)) (len := 2) rfl rfl (x_ilo e4)) ?_
        refine z_aI (t := (10, 0, 0)) (k := 26) (n := 8) (i := l4) rfl rfl R (rc_10 R) H.1 ?_
        replace H := H.2
        refine y_next (pc' := 353) (xst_of (i := (.iload 6)) (len := 2) rfl rfl (x_ilo e6)) ?_
        refine y_next (pc' := 354) (xst_of (i := .ishr) (len := 1) rfl rfl rfl) ?_
        refine y_next (pc' := 355) (xst_of (i := .i2l) (len := 1) rfl rfl rfl) ?_
        refine z_cN (k := 147) (i := (.invokevirtual 216)) (as := [.ref (g.2 (10, 0, 0) 0), .int l3, .int 1, .long (Int32.toInt64 ((fA Y1 (10, 0, 0) 25 (Int32.toNatClampNeg l4)) >>> (l6 &&& 31))), .long (Int32.toInt64 ((fA Y1 (10, 0, 0) 26 (Int32.toNatClampNeg l4)) >>> (l6 &&& 31)))]) (rest := []) rfl rfl (x_callv rfl rfl (rc_ob R (rc_10 R) rfl) rfl rfl) (H _ _ R rfl rfl rfl rfl rfl) (fun h Y9 R H => ?_)
        refine y_next (pc' := 513) (xst_of (i := (.goto 155)) (len := 3) rfl rfl rfl) ?_
        exact H _ _ R e0 e1 e2 e3 e4 e5 e6 e7 e8
      · replace H := H.2.2.2.2.2.2.2.2.2.2.2.2.1
        have hz : l2 = 12 := Int32.toInt_inj.mp (hy.trans rfl)
        replace H := H hz
        refine y_next (xst_of (i := (.tableswitch 400 0 20 #[99, 400, 100, 115, 157, 157, 157, 157, 157, 170, 204, 217, 248, 263, 263, 276, 283, 283, 294, 337, 395])) (len := 99) rfl rfl (x_sw_in (t := 361) hx (by rw [hy]; rfl) rfl)) ?_
        refine y_next (pc' := 362) (xst_of (i := (.aload_n 0)) (len := 1) rfl rfl (x_aloadV (xisV_r _) e0)) ?_
        refine y_next (pc' := 363) (xst_of (i := (.iload_n 3)) (len := 1) rfl rfl (x_ilo e3)) ?_
        refine y_next (pc' := 364) (xst_of (i := (.iconst 2)) (len := 1) rfl rfl (x_ico (v := 2) (by decide))) ?_
        refine y_next (pc' := 366) (xst_of (i := (.iload 6)) (len := 2) rfl rfl (x_ilo e6)) ?_
        refine y_next (pc' := 367) (xst_of (i := .i2l) (len := 1) rfl rfl rfl) ?_
        refine y_next (pc' := 369) (xst_of (i := (.iload 6)) (len := 2) rfl rfl (x_ilo e6)) ?_
        refine y_next (pc' := 370) (xst_of (i := .i2l) (len := 1) rfl rfl rfl) ?_
        refine z_cN (k := 147) (i := (.invokevirtual 216)) (as := [.ref (g.2 (10, 0, 0) 0), .int l3, .int 2, .long (Int32.toInt64 l6), .long (Int32.toInt64 l6)]) (rest := []) rfl rfl (x_callv rfl rfl (rc_ob R (rc_10 R) rfl) rfl rfl) (H _ _ R rfl rfl rfl rfl rfl) (fun h Y10 R H => ?_)
        refine y_next (pc' := 513) (xst_of (i := (.goto 140)) (len := 3) rfl rfl rfl) ?_
        exact H _ _ R e0 e1 e2 e3 e4 e5 e6 e7 e8
      · replace H := H.2.2.2.2.2.2.2.2.2.2.2.2.2.1
        have hz : l2 = 13 := Int32.toInt_inj.mp (hy.trans rfl)
        replace H := H hz
        refine y_next (xst_of (i := (.tableswitch 400 0 20 #[99, 400, 100, 115, 157, 157, 157, 157, 157, 170, 204, 217, 248, 263, 263, 276, 283, 283, 294, 337, 395])) (len := 99) rfl rfl (x_sw_in (t := 376) hx (by rw [hy]; rfl) rfl)) ?_
        exact H _ _ R e0 e1 e2 e3 e4 e5 e6 e7 e8
      · replace H := H.2.2.2.2.2.2.2.2.2.2.2.2.2.2.1
        have hz : l2 = 14 := Int32.toInt_inj.mp (hy.trans rfl)
        replace H := H hz
        refine y_next (xst_of (i := (.tableswitch 400 0 20 #[99, 400, 100, 115, 157, 157, 157, 157, 157, 170, 204, 217, 248, 263, 263, 276, 283, 283, 294, 337, 395])) (len := 99) rfl rfl (x_sw_in (t := 376) hx (by rw [hy]; rfl) rfl)) ?_
        exact H _ _ R e0 e1 e2 e3 e4 e5 e6 e7 e8
      · replace H := H.2.2.2.2.2.2.2.2.2.2.2.2.2.2.2.1
        have hz : l2 = 15 := Int32.toInt_inj.mp (hy.trans rfl)
        replace H := H hz
        refine y_next (xst_of (i := (.tableswitch 400 0 20 #[99, 400, 100, 115, 157, 157, 157, 157, 157, 170, 204, 217, 248, 263, 263, 276, 283, 283, 294, 337, 395])) (len := 99) rfl rfl (x_sw_in (t := 389) hx (by rw [hy]; rfl) rfl)) ?_
        refine y_next (pc' := 390) (xst_of (i := (.aload_n 0)) (len := 1) rfl rfl (x_aloadV (xisV_r _) e0)) ?_
        refine y_next (pc' := 392) (xst_of (i := (.iload 6)) (len := 2) rfl rfl (x_ilo e6)) ?_
        refine z_cN (k := 145) (i := (.invokevirtual 201)) (as := [.ref (g.2 (10, 0, 0) 0), .int l6]) (rest := []) rfl rfl (x_callv rfl rfl (rc_ob R (rc_10 R) rfl) rfl rfl) (H _ _ R rfl rfl) (fun h Y11 R H => ?_)
        exact y_ret (xst_of (i := .return_) (len := 1) rfl rfl rfl) ⟨_, rfl, R, H⟩
      · replace H := H.2.2.2.2.2.2.2.2.2.2.2.2.2.2.2.2.1
        have hz : l2 = 16 := Int32.toInt_inj.mp (hy.trans rfl)
        replace H := H hz
        refine y_next (xst_of (i := (.tableswitch 400 0 20 #[99, 400, 100, 115, 157, 157, 157, 157, 157, 170, 204, 217, 248, 263, 263, 276, 283, 283, 294, 337, 395])) (len := 99) rfl rfl (x_sw_in (t := 396) hx (by rw [hy]; rfl) rfl)) ?_
        exact H _ _ R e0 e1 e2 e3 e4 e5 e6 e7 e8
      · replace H := H.2.2.2.2.2.2.2.2.2.2.2.2.2.2.2.2.2.1
        have hz : l2 = 17 := Int32.toInt_inj.mp (hy.trans rfl)
        replace H := H hz
        refine y_next (xst_of (i := (.tableswitch 400 0 20 #[99, 400, 100, 115, 157, 157, 157, 157, 157, 170, 204, 217, 248, 263, 263, 276, 283, 283, 294, 337, 395])) (len := 99) rfl rfl (x_sw_in (t := 396) hx (by rw [hy]; rfl) rfl)) ?_
        exact H _ _ R e0 e1 e2 e3 e4 e5 e6 e7 e8
      · replace H := H.2.2.2.2.2.2.2.2.2.2.2.2.2.2.2.2.2.2.1
        have hz : l2 = 18 := Int32.toInt_inj.mp (hy.trans rfl)
        replace H := H hz
        refine y_next (xst_of (i := (.tableswitch 400 0 20 #[99, 400, 100, 115, 157, 157, 157, 157, 157, 170, 204, 217, 248, 263, 263, 276, 283, 283, 294, 337, 395])) (len := 99) rfl rfl (x_sw_in (t := 407) hx (by rw [hy]; rfl) rfl)) ?_
        refine y_next (pc' := 409) (xst_of (i := (.iload 6)) (len := 2) rfl rfl (x_ilo e6)) ?_
        refine y_next (pc' := 410) (xst_of (i := (.aload_n 0)) (len := 1) rfl rfl (x_aloadV (xisV_r _) e0)) ?_
        refine z_gA (t := (10, 0, 0)) (k := 9) rfl rfl rfl R (rc_10 R) ?_
        refine y_next (pc' := 414) (xst_of (i := (.aload_n 0)) (len := 1) rfl rfl (x_aloadV (xisV_r _) e0)) ?_
        refine z_gI (t := (10, 0, 0)) (k := 5) rfl rfl rfl R (rc_10 R) ?_
        refine z_aI (t := (10, 0, 0)) (k := 9) (n := 24) (i := (fI Y1 (10, 0, 0) 5)) rfl rfl R (rc_10 R) H.1 ?_
        replace H := H.2
        by_cases hc : (fA Y1 (10, 0, 0) 9 (Int32.toNatClampNeg (fI Y1 (10, 0, 0) 5))) ≤ l6
        · replace H := H.1 hc
          refine y_next (xst_of (i := (.if_icmp .ge 12)) (len := 3) rfl rfl (xt_icmp_ge (t := 430) rfl hc)) ?_
          exact H _ _ R e0 e1 e2 e3 e4 e5 e6 e7 e8
        · replace H := H.2 hc
          refine y_next (pc' := 421) (xst_of (i := (.if_icmp .ge 12)) (len := 3) rfl rfl (xf_icmp_ge (t := 430) rfl hc)) ?_
          refine y_next (pc' := 423) (xst_of (i := (.iload 6)) (len := 2) rfl rfl (x_ilo e6)) ?_
          refine y_next (pc' := 424) (xst_of (i := (.aload_n 0)) (len := 1) rfl rfl (x_aloadV (xisV_r _) e0)) ?_
          refine z_gI (t := (10, 0, 0)) (k := 30) rfl rfl rfl R (rc_10 R) ?_
          by_cases hc : (fI Y1 (10, 0, 0) 30) < l6
          · replace H := H.1 hc
            refine y_next (xst_of (i := (.if_icmp .gt 12)) (len := 3) rfl rfl (xt_icmp_gt (t := 439) rfl hc)) ?_
            refine y_next (pc' := 440) (xst_of (i := (.aload_n 0)) (len := 1) rfl rfl (x_aloadV (xisV_r _) e0)) ?_
            refine y_next (pc' := 441) (xst_of (i := (.aload_n 0)) (len := 1) rfl rfl (x_aloadV (xisV_r _) e0)) ?_
            refine z_gI (t := (10, 0, 0)) (k := 5) rfl rfl rfl R (rc_10 R) ?_
            refine y_next (pc' := 446) (xst_of (i := (.iload 6)) (len := 2) rfl rfl (x_ilo e6)) ?_
            refine z_cN (k := 157) (i := (.invokevirtual 273)) (as := [.ref (g.2 (10, 0, 0) 0), .int (fI Y1 (10, 0, 0) 5), .int l6]) (rest := []) rfl rfl (x_callv rfl rfl (rc_ob R (rc_10 R) rfl) rfl rfl) (H _ _ R rfl rfl rfl) (fun h Y12 R H => ?_)
            exact H _ _ R e0 e1 e2 e3 e4 e5 e6 e7 e8
          · replace H := H.2 hc
            refine y_next (pc' := 430) (xst_of (i := (.if_icmp .gt 12)) (len := 3) rfl rfl (xf_icmp_gt (t := 439) rfl hc)) ?_
            exact H _ _ R e0 e1 e2 e3 e4 e5 e6 e7 e8
      · replace H := H.2.2.2.2.2.2.2.2.2.2.2.2.2.2.2.2.2.2.2.1
        have hz : l2 = 19 := Int32.toInt_inj.mp (hy.trans rfl)
        replace H := H hz
        refine y_next (xst_of (i := (.tableswitch 400 0 20 #[99, 400, 100, 115, 157, 157, 157, 157, 157, 170, 204, 217, 248, 263, 263, 276, 283, 283, 294, 337, 395])) (len := 99) rfl rfl (x_sw_in (t := 450) hx (by rw [hy]; rfl) rfl)) ?_
        refine y_next (pc' := 452) (xst_of (i := (.iload 6)) (len := 2) rfl rfl (x_ilo e6)) ?_
        refine y_next (pc' := 453) (xst_of (i := (.aload_n 0)) (len := 1) rfl rfl (x_aloadV (xisV_r _) e0)) ?_
        refine z_gA (t := (10, 0, 0)) (k := 10) rfl rfl rfl R (rc_10 R) ?_
        refine y_next (pc' := 457) (xst_of (i := (.aload_n 0)) (len := 1) rfl rfl (x_aloadV (xisV_r _) e0)) ?_
        refine z_gI (t := (10, 0, 0)) (k := 5) rfl rfl rfl R (rc_10 R) ?_
        refine z_aI (t := (10, 0, 0)) (k := 10) (n := 24) (i := (fI Y1 (10, 0, 0) 5)) rfl rfl R (rc_10 R) H.1 ?_
        replace H := H.2
        by_cases hc : l6 < (fA Y1 (10, 0, 0) 10 (Int32.toNatClampNeg (fI Y1 (10, 0, 0) 5)))
        · replace H := H.1 hc
          refine y_next (xst_of (i := (.if_icmp .lt 12)) (len := 3) rfl rfl (xt_icmp_lt (t := 473) rfl hc)) ?_
          refine y_next (pc' := 474) (xst_of (i := (.aload_n 0)) (len := 1) rfl rfl (x_aloadV (xisV_r _) e0)) ?_
          refine y_next (pc' := 475) (xst_of (i := (.aload_n 0)) (len := 1) rfl rfl (x_aloadV (xisV_r _) e0)) ?_
          refine z_gA (t := (10, 0, 0)) (k := 22) rfl rfl rfl R (rc_10 R) ?_
          refine y_next (pc' := 480) (xst_of (i := (.bipush 8)) (len := 2) rfl rfl (x_bip (v := 8) (by decide))) ?_
          refine y_next (pc' := 481) (xst_of (i := (.aload_n 0)) (len := 1) rfl rfl (x_aloadV (xisV_r _) e0)) ?_
          refine z_gI (t := (10, 0, 0)) (k := 5) rfl rfl rfl R (rc_10 R) ?_
          refine y_next (pc' := 485) (xst_of (i := .imul) (len := 1) rfl rfl rfl) ?_
          refine y_next (pc' := 487) (xst_of (i := (.iload 6)) (len := 2) rfl rfl (x_ilo e6)) ?_
          refine y_next (pc' := 488) (xst_of (i := .iadd) (len := 1) rfl rfl rfl) ?_
          refine z_aI (t := (10, 0, 0)) (k := 22) (n := 192) (i := ((8 * (fI Y1 (10, 0, 0) 5)) + l6)) rfl rfl R (rc_10 R) H.1 ?_
          replace H := H.2
          refine y_next (pc' := 490) (xst_of (i := (.aload_n 0)) (len := 1) rfl rfl (x_aloadV (xisV_r _) e0)) ?_
          refine z_gA (t := (10, 0, 0)) (k := 23) rfl rfl rfl R (rc_10 R) ?_
          refine y_next (pc' := 495) (xst_of (i := (.bipush 8)) (len := 2) rfl rfl (x_bip (v := 8) (by decide))) ?_
          refine y_next (pc' := 496) (xst_of (i := (.aload_n 0)) (len := 1) rfl rfl (x_aloadV (xisV_r _) e0)) ?_
          refine z_gI (t := (10, 0, 0)) (k := 5) rfl rfl rfl R (rc_10 R) ?_
          refine y_next (pc' := 500) (xst_of (i := .imul) (len := 1) rfl rfl rfl) ?_
          refine y_next (pc' := 502) (xst_of (i := (.iload 6)) (len := 2) rfl rfl (x_ilo e6)) ?_
          refine y_next (pc' := 503) (xst_of (i := .iadd) (len := 1) rfl rfl rfl) ?_
          refine z_aI (t := (10, 0, 0)) (k := 23) (n := 192) (i := ((8 * (fI Y1 (10, 0, 0) 5)) + l6)) rfl rfl R (rc_10 R) H.1 ?_
          replace H := H.2
          refine z_cN (k := 157) (i := (.invokevirtual 273)) (as := [.ref (g.2 (10, 0, 0) 0), .int (fA Y1 (10, 0, 0) 22 (Int32.toNatClampNeg ((8 * (fI Y1 (10, 0, 0) 5)) + l6))), .int (fA Y1 (10, 0, 0) 23 (Int32.toNatClampNeg ((8 * (fI Y1 (10, 0, 0) 5)) + l6)))]) (rest := []) rfl rfl (x_callv rfl rfl (rc_ob R (rc_10 R) rfl) rfl rfl) (H _ _ R rfl rfl rfl) (fun h Y13 R H => ?_)
          exact H _ _ R e0 e1 e2 e3 e4 e5 e6 e7 e8
        · replace H := H.2 hc
          refine y_next (pc' := 464) (xst_of (i := (.if_icmp .lt 12)) (len := 3) rfl rfl (xf_icmp_lt (t := 473) rfl hc)) ?_
          refine y_next (pc' := 465) (xst_of (i := (.aload_n 0)) (len := 1) rfl rfl (x_aloadV (xisV_r _) e0)) ?_
          refine y_next (pc' := 467) (xst_of (i := (.bipush 8)) (len := 2) rfl rfl (x_bip (v := 8) (by decide))) ?_
          refine z_cN (k := 141) (i := (.invokevirtual 187)) (as := [.ref (g.2 (10, 0, 0) 0), .int 8]) (rest := []) rfl rfl (x_callv rfl rfl (rc_ob R (rc_10 R) rfl) rfl rfl) (H _ _ R rfl rfl) (fun h Y14 R H => ?_)
          refine y_next (pc' := 507) (xst_of (i := (.goto 37)) (len := 3) rfl rfl rfl) ?_
          exact H _ _ R e0 e1 e2 e3 e4 e5 e6 e7 e8
      · replace H := H.2.2.2.2.2.2.2.2.2.2.2.2.2.2.2.2.2.2.2.2
        have hz : l2 = 20 := Int32.toInt_inj.mp (hy.trans rfl)
        replace H := H hz
        refine y_next (xst_of (i := (.tableswitch 400 0 20 #[99, 400, 100, 115, 157, 157, 157, 157, 157, 170, 204, 217, 248, 263, 263, 276, 283, 283, 294, 337, 395])) (len := 99) rfl rfl (x_sw_in (t := 508) hx (by rw [hy]; rfl) rfl)) ?_
        refine y_next (pc' := 509) (xst_of (i := (.aload_n 0)) (len := 1) rfl rfl (x_aloadV (xisV_r _) e0)) ?_
        refine z_cN (k := 158) (i := (.invokevirtual 277)) (as := [.ref (g.2 (10, 0, 0) 0)]) (rest := []) rfl rfl (x_callv rfl rfl (rc_ob R (rc_10 R) rfl) rfl rfl) (H _ _ R rfl) (fun h Y15 R H => ?_)
        exact y_ret (xst_of (i := .return_) (len := 1) rfl rfl rfl) ⟨_, rfl, R, H⟩
  · replace H := H.2 hc
    refine y_next (pc' := 106) (xst_of (i := (.ifCond .eq 4)) (len := 3) rfl rfl (xf_if_eq (t := 107) rfl hc)) ?_
    exact y_ret (xst_of (i := .return_) (len := 1) rfl rfl rfl) ⟨_, rfl, R, H⟩
set_option maxRecDepth 20000 in
theorem l_159_270 {V : xV} {g : xG} {Y : xW} {l1 : Int32} {l2 : Int32} {l3 : Int32} {l4 : Int32} {l5 : Int32} {l6 : Int32} {l7 : Int32} {l8 : Int32} {Q : xW → Prop} (H : L_152_0 V g Y l2 l3 l4 l5 (fun Y1 => L_159_513 V g Y1 l1 l2 l3 l4 l5 l6 l7 l8 Q)) : L_159_270 V g Y l1 l2 l3 l4 l5 l6 l7 l8 Q := by
  intro h lv R e0 e1 e2 e3 e4 e5 e6 e7 e8
  refine y_next (pc' := 271) (xst_of (i := (.aload_n 0)) (len := 1) rfl rfl (x_aloadV (xisV_r _) e0)) ?_
  refine y_next (pc' := 272) (xst_of (i := (.iload_n 2)) (len := 1) rfl rfl (x_ilo e2)) ?_
  refine y_next (pc' := 273) (xst_of (i := (.iload_n 3)) (len := 1) rfl rfl (x_ilo e3)) ?_
  refine y_next (pc' := 275) (xst_of (i := (.iload 4)) (len := 2) rfl rfl (x_ilo e4)) ?_
  refine y_next (pc' := 277) (xst_of (i := (.iload 5)) (len := 2) rfl rfl (x_ilo e5)) ?_
  refine z_cN (k := 152) (i := (.invokevirtual 263)) (as := [.ref (g.2 (10, 0, 0) 0), .int l2, .int l3, .int l4, .int l5]) (rest := []) rfl rfl (x_callv rfl rfl (rc_ob R (rc_10 R) rfl) rfl rfl) (H _ _ R rfl rfl rfl rfl rfl) (fun h Y1 R H => ?_)
  refine y_next (pc' := 513) (xst_of (i := (.goto 233)) (len := 3) rfl rfl rfl) ?_
  exact H _ _ R e0 e1 e2 e3 e4 e5 e6 e7 e8
set_option maxRecDepth 20000 in
theorem l_159_376 {V : xV} {g : xG} {Y : xW} {l1 : Int32} {l2 : Int32} {l3 : Int32} {l4 : Int32} {l5 : Int32} {l6 : Int32} {l7 : Int32} {l8 : Int32} {Q : xW → Prop} (H : L_153_0 V g Y l2 l3 l4 l7 (fun Y1 => L_159_513 V g Y1 l1 l2 l3 l4 l5 l6 l7 l8 Q)) : L_159_376 V g Y l1 l2 l3 l4 l5 l6 l7 l8 Q := by
  intro h lv R e0 e1 e2 e3 e4 e5 e6 e7 e8
  refine y_next (pc' := 377) (xst_of (i := (.aload_n 0)) (len := 1) rfl rfl (x_aloadV (xisV_r _) e0)) ?_
  refine y_next (pc' := 378) (xst_of (i := (.iload_n 2)) (len := 1) rfl rfl (x_ilo e2)) ?_
  refine y_next (pc' := 379) (xst_of (i := (.iload_n 3)) (len := 1) rfl rfl (x_ilo e3)) ?_
  refine y_next (pc' := 381) (xst_of (i := (.iload 4)) (len := 2) rfl rfl (x_ilo e4)) ?_
  refine y_next (pc' := 383) (xst_of (i := (.iload 7)) (len := 2) rfl rfl (x_ilo e7)) ?_
  refine z_cN (k := 153) (i := (.invokevirtual 267)) (as := [.ref (g.2 (10, 0, 0) 0), .int l2, .int l3, .int l4, .int l7]) (rest := []) rfl rfl (x_callv rfl rfl (rc_ob R (rc_10 R) rfl) rfl rfl) (H _ _ R rfl rfl rfl rfl rfl) (fun h Y1 R H => ?_)
  refine y_next (pc' := 513) (xst_of (i := (.goto 127)) (len := 3) rfl rfl rfl) ?_
  exact H _ _ R e0 e1 e2 e3 e4 e5 e6 e7 e8
set_option maxRecDepth 20000 in
theorem l_159_396 {V : xV} {g : xG} {Y : xW} {l1 : Int32} {l2 : Int32} {l3 : Int32} {l4 : Int32} {l5 : Int32} {l6 : Int32} {l7 : Int32} {l8 : Int32} {Q : xW → Prop} (H : L_154_0 V g Y l2 l3 l4 l6 (fun Y1 => Q Y1)) : L_159_396 V g Y l1 l2 l3 l4 l5 l6 l7 l8 Q := by
  intro h lv R e0 e1 e2 e3 e4 e5 e6 e7 e8
  refine y_next (pc' := 397) (xst_of (i := (.aload_n 0)) (len := 1) rfl rfl (x_aloadV (xisV_r _) e0)) ?_
  refine y_next (pc' := 398) (xst_of (i := (.iload_n 2)) (len := 1) rfl rfl (x_ilo e2)) ?_
  refine y_next (pc' := 399) (xst_of (i := (.iload_n 3)) (len := 1) rfl rfl (x_ilo e3)) ?_
  refine y_next (pc' := 401) (xst_of (i := (.iload 4)) (len := 2) rfl rfl (x_ilo e4)) ?_
  refine y_next (pc' := 403) (xst_of (i := (.iload 6)) (len := 2) rfl rfl (x_ilo e6)) ?_
  refine z_cN (k := 154) (i := (.invokevirtual 270)) (as := [.ref (g.2 (10, 0, 0) 0), .int l2, .int l3, .int l4, .int l6]) (rest := []) rfl rfl (x_callv rfl rfl (rc_ob R (rc_10 R) rfl) rfl rfl) (H _ _ R rfl rfl rfl rfl rfl) (fun h Y1 R H => ?_)
  exact y_ret (xst_of (i := .return_) (len := 1) rfl rfl rfl) ⟨_, rfl, R, H⟩
set_option maxRecDepth 20000 in
theorem l_159_430 {V : xV} {g : xG} {Y : xW} {l1 : Int32} {l2 : Int32} {l3 : Int32} {l4 : Int32} {l5 : Int32} {l6 : Int32} {l7 : Int32} {l8 : Int32} {Q : xW → Prop} (H : L_141_0 V g Y 8 (fun Y1 => L_159_449 V g Y1 l1 l2 l3 l4 l5 l6 l7 l8 Q)) : L_159_430 V g Y l1 l2 l3 l4 l5 l6 l7 l8 Q := by
  intro h lv R e0 e1 e2 e3 e4 e5 e6 e7 e8
  refine y_next (pc' := 431) (xst_of (i := (.aload_n 0)) (len := 1) rfl rfl (x_aloadV (xisV_r _) e0)) ?_
  refine y_next (pc' := 433) (xst_of (i := (.bipush 8)) (len := 2) rfl rfl (x_bip (v := 8) (by decide))) ?_
  refine z_cN (k := 141) (i := (.invokevirtual 187)) (as := [.ref (g.2 (10, 0, 0) 0), .int 8]) (rest := []) rfl rfl (x_callv rfl rfl (rc_ob R (rc_10 R) rfl) rfl rfl) (H _ _ R rfl rfl) (fun h Y1 R H => ?_)
  refine y_next (pc' := 449) (xst_of (i := (.goto 13)) (len := 3) rfl rfl rfl) ?_
  exact H _ _ R e0 e1 e2 e3 e4 e5 e6 e7 e8
set_option maxRecDepth 20000 in
theorem l_159_449 {V : xV} {g : xG} {Y : xW} {l1 : Int32} {l2 : Int32} {l3 : Int32} {l4 : Int32} {l5 : Int32} {l6 : Int32} {l7 : Int32} {l8 : Int32} {Q : xW → Prop} (H : Q Y) : L_159_449 V g Y l1 l2 l3 l4 l5 l6 l7 l8 Q := by
  intro h lv R e0 e1 e2 e3 e4 e5 e6 e7 e8
  exact y_ret (xst_of (i := .return_) (len := 1) rfl rfl rfl) ⟨_, rfl, R, H⟩
set_option maxRecDepth 20000 in
theorem l_159_507 {V : xV} {g : xG} {Y : xW} {l1 : Int32} {l2 : Int32} {l3 : Int32} {l4 : Int32} {l5 : Int32} {l6 : Int32} {l7 : Int32} {l8 : Int32} {Q : xW → Prop} (H : Q Y) : L_159_507 V g Y l1 l2 l3 l4 l5 l6 l7 l8 Q := by
  intro h lv R e0 e1 e2 e3 e4 e5 e6 e7 e8
  exact y_ret (xst_of (i := .return_) (len := 1) rfl rfl rfl) ⟨_, rfl, R, H⟩
set_option maxRecDepth 20000 in
theorem l_159_513 {V : xV} {g : xG} {Y : xW} {l1 : Int32} {l2 : Int32} {l3 : Int32} {l4 : Int32} {l5 : Int32} {l6 : Int32} {l7 : Int32} {l8 : Int32} {Q : xW → Prop} (H : (((fI Y (10, 0, 0) 29) = 0) → L_146_0 V g Y  (fun Y1 => L_159_524 V g Y1 l1 l2 l3 l4 l5 l6 l7 l8 Q)) ∧ (¬ ((fI Y (10, 0, 0) 29) = 0) → L_159_524 V g Y l1 l2 l3 l4 l5 l6 l7 l8 Q)) : L_159_513 V g Y l1 l2 l3 l4 l5 l6 l7 l8 Q := by
  intro h lv R e0 e1 e2 e3 e4 e5 e6 e7 e8
  refine y_next (pc' := 514) (xst_of (i := (.aload_n 0)) (len := 1) rfl rfl (x_aloadV (xisV_r _) e0)) ?_
  refine z_gI (t := (10, 0, 0)) (k := 29) rfl rfl rfl R (rc_10 R) ?_
  by_cases hc : (fI Y (10, 0, 0) 29) = 0
  · replace H := H.1 hc
    refine y_next (pc' := 520) (xst_of (i := (.ifCond .ne 7)) (len := 3) rfl rfl (xf_if_ne (t := 524) rfl (fun z => z hc))) ?_
    refine y_next (pc' := 521) (xst_of (i := (.aload_n 0)) (len := 1) rfl rfl (x_aloadV (xisV_r _) e0)) ?_
    refine z_cN (k := 146) (i := (.invokevirtual 247)) (as := [.ref (g.2 (10, 0, 0) 0)]) (rest := []) rfl rfl (x_callv rfl rfl (rc_ob R (rc_10 R) rfl) rfl rfl) (H _ _ R rfl) (fun h Y1 R H => ?_)
    exact H _ _ R e0 e1 e2 e3 e4 e5 e6 e7 e8
  · replace H := H.2 hc
    refine y_next (xst_of (i := (.ifCond .ne 7)) (len := 3) rfl rfl (xt_if_ne (t := 524) rfl hc)) ?_
    exact H _ _ R e0 e1 e2 e3 e4 e5 e6 e7 e8
set_option maxRecDepth 20000 in
theorem l_159_524 {V : xV} {g : xG} {Y : xW} {l1 : Int32} {l2 : Int32} {l3 : Int32} {l4 : Int32} {l5 : Int32} {l6 : Int32} {l7 : Int32} {l8 : Int32} {Q : xW → Prop} (H : Q Y) : L_159_524 V g Y l1 l2 l3 l4 l5 l6 l7 l8 Q := by
  intro h lv R e0 e1 e2 e3 e4 e5 e6 e7 e8
  exact y_ret (xst_of (i := .return_) (len := 1) rfl rfl rfl) ⟨_, rfl, R, H⟩
theorem l_160_0 {V : xV} {g : xG} {Y : xW} {l1 : Int32} {Q : xW → Prop} (H : L_160_2 V g Y l1 0 Q) : L_160_0 V g Y l1 Q := by
  intro h lv R e0 e1
  refine y_next (pc' := 1) (xst_of (i := (.iconst 0)) (len := 1) rfl rfl (x_ico (v := 0) (by decide))) ?_
  refine z_is (i := (.istore_n 2)) (len := 1) (pc' := 2) (q := 2) rfl rfl rfl (by decide) (fun lv1 hlv => ?_)
  have e0 := xs1_A hlv e0 rfl rfl
  have e1 := xs1_B hlv e1 rfl rfl
  have e2 := xs1_N hlv
  clear hlv
  exact H _ _ R e0 e1 e2
theorem l_160_2 {V : xV} {g : xG} {Y : xW} {l1 : Int32} {l2 : Int32} {Q : xW → Prop} (H : ((8 ≤ l2) → Q Y) ∧ (¬ (8 ≤ l2) → vp_in ((8 * l1) + l2) 38400 ∧ vp_in l2 8 ∧ ∀ Y1, Y1 = uA Y (10, 0, 0) 24 (Int32.toNatClampNeg l2) (fA Y (10, 0, 0) 14 (Int32.toNatClampNeg ((8 * l1) + l2))) → vp_in ((8 * l1) + l2) 38400 ∧ vp_in l2 8 ∧ ∀ Y2, Y2 = uA Y1 (10, 0, 0) 25 (Int32.toNatClampNeg l2) (fA Y1 (10, 0, 0) 15 (Int32.toNatClampNeg ((8 * l1) + l2))) → vp_in ((8 * l1) + l2) 38400 ∧ vp_in l2 8 ∧ ∀ Y3, Y3 = uA Y2 (10, 0, 0) 26 (Int32.toNatClampNeg l2) (fA Y2 (10, 0, 0) 16 (Int32.toNatClampNeg ((8 * l1) + l2))) → L_160_2 V g Y3 l1 (l2 + 1) Q)) : L_160_2 V g Y l1 l2 Q := by
  intro h lv R e0 e1 e2
  refine y_next (pc' := 3) (xst_of (i := (.iload_n 2)) (len := 1) rfl rfl (x_ilo e2)) ?_
  refine y_next (pc' := 5) (xst_of (i := (.bipush 8)) (len := 2) rfl rfl (x_bip (v := 8) (by decide))) ?_
  by_cases hc : 8 ≤ l2
  · replace H := H.1 hc
    refine y_next (xst_of (i := (.if_icmp .ge 60)) (len := 3) rfl rfl (xt_icmp_ge (t := 65) rfl hc)) ?_
    exact y_ret (xst_of (i := .return_) (len := 1) rfl rfl rfl) ⟨_, rfl, R, H⟩
  · replace H := H.2 hc
    refine y_next (pc' := 8) (xst_of (i := (.if_icmp .ge 60)) (len := 3) rfl rfl (xf_icmp_ge (t := 65) rfl hc)) ?_
    refine y_next (pc' := 9) (xst_of (i := (.aload_n 0)) (len := 1) rfl rfl (x_aloadV (xisV_r _) e0)) ?_
    refine z_gA (t := (10, 0, 0)) (k := 24) rfl rfl rfl R (rc_10 R) ?_
    refine y_next (pc' := 13) (xst_of (i := (.iload_n 2)) (len := 1) rfl rfl (x_ilo e2)) ?_
    refine y_next (pc' := 14) (xst_of (i := (.aload_n 0)) (len := 1) rfl rfl (x_aloadV (xisV_r _) e0)) ?_
    refine z_gA (t := (10, 0, 0)) (k := 14) rfl rfl rfl R (rc_10 R) ?_
    refine y_next (pc' := 19) (xst_of (i := (.bipush 8)) (len := 2) rfl rfl (x_bip (v := 8) (by decide))) ?_
    refine y_next (pc' := 20) (xst_of (i := (.iload_n 1)) (len := 1) rfl rfl (x_ilo e1)) ?_
    refine y_next (pc' := 21) (xst_of (i := .imul) (len := 1) rfl rfl rfl) ?_
    refine y_next (pc' := 22) (xst_of (i := (.iload_n 2)) (len := 1) rfl rfl (x_ilo e2)) ?_
    refine y_next (pc' := 23) (xst_of (i := .iadd) (len := 1) rfl rfl rfl) ?_
    refine z_aI (t := (10, 0, 0)) (k := 14) (n := 38400) (i := ((8 * l1) + l2)) rfl rfl R (rc_10 R) H.1 ?_
    replace H := H.2
    refine z_sI (t := (10, 0, 0)) (k := 24) (n := 8) (i := l2) rfl rfl R (rc_10 R) H.1 (fun h Y1 hY R => ?_)
    replace H := H.2 Y1 hY
    clear hY
    refine y_next (pc' := 26) (xst_of (i := (.aload_n 0)) (len := 1) rfl rfl (x_aloadV (xisV_r _) e0)) ?_
    refine z_gA (t := (10, 0, 0)) (k := 25) rfl rfl rfl R (rc_10 R) ?_
    refine y_next (pc' := 30) (xst_of (i := (.iload_n 2)) (len := 1) rfl rfl (x_ilo e2)) ?_
    refine y_next (pc' := 31) (xst_of (i := (.aload_n 0)) (len := 1) rfl rfl (x_aloadV (xisV_r _) e0)) ?_
    refine z_gA (t := (10, 0, 0)) (k := 15) rfl rfl rfl R (rc_10 R) ?_
    refine y_next (pc' := 36) (xst_of (i := (.bipush 8)) (len := 2) rfl rfl (x_bip (v := 8) (by decide))) ?_
    refine y_next (pc' := 37) (xst_of (i := (.iload_n 1)) (len := 1) rfl rfl (x_ilo e1)) ?_
    refine y_next (pc' := 38) (xst_of (i := .imul) (len := 1) rfl rfl rfl) ?_
    refine y_next (pc' := 39) (xst_of (i := (.iload_n 2)) (len := 1) rfl rfl (x_ilo e2)) ?_
    refine y_next (pc' := 40) (xst_of (i := .iadd) (len := 1) rfl rfl rfl) ?_
    refine z_aI (t := (10, 0, 0)) (k := 15) (n := 38400) (i := ((8 * l1) + l2)) rfl rfl R (rc_10 R) H.1 ?_
    replace H := H.2
    refine z_sI (t := (10, 0, 0)) (k := 25) (n := 8) (i := l2) rfl rfl R (rc_10 R) H.1 (fun h Y2 hY R => ?_)
    replace H := H.2 Y2 hY
    clear hY
    refine y_next (pc' := 43) (xst_of (i := (.aload_n 0)) (len := 1) rfl rfl (x_aloadV (xisV_r _) e0)) ?_
    refine z_gA (t := (10, 0, 0)) (k := 26) rfl rfl rfl R (rc_10 R) ?_
    refine y_next (pc' := 47) (xst_of (i := (.iload_n 2)) (len := 1) rfl rfl (x_ilo e2)) ?_
    refine y_next (pc' := 48) (xst_of (i := (.aload_n 0)) (len := 1) rfl rfl (x_aloadV (xisV_r _) e0)) ?_
    refine z_gA (t := (10, 0, 0)) (k := 16) rfl rfl rfl R (rc_10 R) ?_
    refine y_next (pc' := 53) (xst_of (i := (.bipush 8)) (len := 2) rfl rfl (x_bip (v := 8) (by decide))) ?_
    refine y_next (pc' := 54) (xst_of (i := (.iload_n 1)) (len := 1) rfl rfl (x_ilo e1)) ?_
    refine y_next (pc' := 55) (xst_of (i := .imul) (len := 1) rfl rfl rfl) ?_
    refine y_next (pc' := 56) (xst_of (i := (.iload_n 2)) (len := 1) rfl rfl (x_ilo e2)) ?_
    refine y_next (pc' := 57) (xst_of (i := .iadd) (len := 1) rfl rfl rfl) ?_
    refine z_aI (t := (10, 0, 0)) (k := 16) (n := 38400) (i := ((8 * l1) + l2)) rfl rfl R (rc_10 R) H.1 ?_
    replace H := H.2
    refine z_sI (t := (10, 0, 0)) (k := 26) (n := 8) (i := l2) rfl rfl R (rc_10 R) H.1 (fun h Y3 hY R => ?_)
    replace H := H.2 Y3 hY
    clear hY
    refine z_in (q := 2) (n := 1) (v := 1) rfl e2 (by decide) (by decide) (fun lv1 hlv => ?_)
    have e0 := xs1_A hlv e0 rfl rfl
    have e1 := xs1_B hlv e1 rfl rfl
    have e2 := xs1_N hlv
    clear hlv
    refine y_next (pc' := 2) (xst_of (i := (.goto (-60))) (len := 3) rfl rfl rfl) ?_
    exact H _ _ R e0 e1 e2
theorem l_161_0 {V : xV} {g : xG} {Y : xW}  {Q : xW → Prop} (H : vp_in (200 * (fI Y (10, 0, 0) 5)) 4800 ∧ (((fA Y (10, 0, 0) 13 (Int32.toNatClampNeg (200 * (fI Y (10, 0, 0) 5)))) = 0) → L_161_21 V g Y 1 Q) ∧ (¬ ((fA Y (10, 0, 0) 13 (Int32.toNatClampNeg (200 * (fI Y (10, 0, 0) 5)))) = 0) → L_161_21 V g Y 0 Q)) : L_161_0 V g Y  Q := by
  intro h lv R e0
  refine y_next (pc' := 1) (xst_of (i := (.aload_n 0)) (len := 1) rfl rfl (x_aloadV (xisV_r _) e0)) ?_
  refine z_gA (t := (10, 0, 0)) (k := 13) rfl rfl rfl R (rc_10 R) ?_
  refine y_next (pc' := 7) (xst_of (i := (.sipush 200)) (len := 3) rfl rfl (x_sip (v := 200) (by decide))) ?_
  refine y_next (pc' := 8) (xst_of (i := (.aload_n 0)) (len := 1) rfl rfl (x_aloadV (xisV_r _) e0)) ?_
  refine z_gI (t := (10, 0, 0)) (k := 5) rfl rfl rfl R (rc_10 R) ?_
  refine y_next (pc' := 12) (xst_of (i := .imul) (len := 1) rfl rfl rfl) ?_
  refine z_aI (t := (10, 0, 0)) (k := 13) (n := 4800) (i := (200 * (fI Y (10, 0, 0) 5))) rfl rfl R (rc_10 R) H.1 ?_
  replace H := H.2
  by_cases hc : (fA Y (10, 0, 0) 13 (Int32.toNatClampNeg (200 * (fI Y (10, 0, 0) 5)))) = 0
  · replace H := H.1 hc
    refine y_next (pc' := 16) (xst_of (i := (.ifCond .ne 7)) (len := 3) rfl rfl (xf_if_ne (t := 20) rfl (fun z => z hc))) ?_
    refine y_next (pc' := 17) (xst_of (i := (.iconst 1)) (len := 1) rfl rfl (x_ico (v := 1) (by decide))) ?_
    refine y_next (pc' := 21) (xst_of (i := (.goto 4)) (len := 3) rfl rfl rfl) ?_
    exact H _ _ R e0
  · replace H := H.2 hc
    refine y_next (xst_of (i := (.ifCond .ne 7)) (len := 3) rfl rfl (xt_if_ne (t := 20) rfl hc)) ?_
    refine y_next (pc' := 21) (xst_of (i := (.iconst 0)) (len := 1) rfl rfl (x_ico (v := 0) (by decide))) ?_
    exact H _ _ R e0
theorem l_161_21 {V : xV} {g : xG} {Y : xW} {s0 : Int32} {Q : xW → Prop} (H : L_161_24 V g Y s0 0 Q) : L_161_21 V g Y s0 Q := by
  intro h lv R e0
  refine z_is (i := (.istore_n 1)) (len := 1) (pc' := 22) (q := 1) rfl rfl rfl (by decide) (fun lv1 hlv => ?_)
  have e0 := xs1_B hlv e0 rfl rfl
  have e1 := xs1_N hlv
  clear hlv
  refine y_next (pc' := 23) (xst_of (i := (.iconst 0)) (len := 1) rfl rfl (x_ico (v := 0) (by decide))) ?_
  refine z_is (i := (.istore_n 2)) (len := 1) (pc' := 24) (q := 2) rfl rfl rfl (by decide) (fun lv2 hlv => ?_)
  have e0 := xs1_A hlv e0 rfl rfl
  have e1 := xs1_B hlv e1 rfl rfl
  have e2 := xs1_N hlv
  clear hlv
  exact H _ _ R e0 e1 e2
theorem l_161_24 {V : xV} {g : xG} {Y : xW} {l1 : Int32} {l2 : Int32} {Q : xW → Prop} (H : ((8 ≤ l2) → L_161_76 V g Y l1 l2 Q) ∧ (¬ (8 ≤ l2) → ((l1 = 0) → L_161_76 V g Y l1 l2 Q) ∧ (¬ (l1 = 0) → vp_in ((1600 * (fI Y (10, 0, 0) 5)) + l2) 38400 ∧ vp_in ((1600 * (fI Y (10, 0, 0) 5)) + l2) 38400 ∧ vp_in ((1600 * (fI Y (10, 0, 0) 5)) + l2) 38400 ∧ L_142_0 V g Y 1 0 0 (fA Y (10, 0, 0) 14 (Int32.toNatClampNeg ((1600 * (fI Y (10, 0, 0) 5)) + l2))) (fA Y (10, 0, 0) 15 (Int32.toNatClampNeg ((1600 * (fI Y (10, 0, 0) 5)) + l2))) (fA Y (10, 0, 0) 16 (Int32.toNatClampNeg ((1600 * (fI Y (10, 0, 0) 5)) + l2))) (fun x2 Y1 => L_161_24 V g Y1 x2 (l2 + 1) Q)))) : L_161_24 V g Y l1 l2 Q := by
  intro h lv R e0 e1 e2
  refine y_next (pc' := 25) (xst_of (i := (.iload_n 2)) (len := 1) rfl rfl (x_ilo e2)) ?_
  refine y_next (pc' := 27) (xst_of (i := (.bipush 8)) (len := 2) rfl rfl (x_bip (v := 8) (by decide))) ?_
  by_cases hc : 8 ≤ l2
  · replace H := H.1 hc
    refine y_next (xst_of (i := (.if_icmp .ge 49)) (len := 3) rfl rfl (xt_icmp_ge (t := 76) rfl hc)) ?_
    exact H _ _ R e0 e1 e2
  · replace H := H.2 hc
    refine y_next (pc' := 30) (xst_of (i := (.if_icmp .ge 49)) (len := 3) rfl rfl (xf_icmp_ge (t := 76) rfl hc)) ?_
    refine y_next (pc' := 31) (xst_of (i := (.iload_n 1)) (len := 1) rfl rfl (x_ilo e1)) ?_
    by_cases hc : l1 = 0
    · replace H := H.1 hc
      refine y_next (xst_of (i := (.ifCond .eq 45)) (len := 3) rfl rfl (xt_if_eq (t := 76) rfl hc)) ?_
      exact H _ _ R e0 e1 e2
    · replace H := H.2 hc
      refine y_next (pc' := 34) (xst_of (i := (.ifCond .eq 45)) (len := 3) rfl rfl (xf_if_eq (t := 76) rfl hc)) ?_
      refine y_next (pc' := 37) (xst_of (i := (.sipush 1600)) (len := 3) rfl rfl (x_sip (v := 1600) (by decide))) ?_
      refine y_next (pc' := 38) (xst_of (i := (.aload_n 0)) (len := 1) rfl rfl (x_aloadV (xisV_r _) e0)) ?_
      refine z_gI (t := (10, 0, 0)) (k := 5) rfl rfl rfl R (rc_10 R) ?_
      refine y_next (pc' := 42) (xst_of (i := .imul) (len := 1) rfl rfl rfl) ?_
      refine y_next (pc' := 43) (xst_of (i := (.iload_n 2)) (len := 1) rfl rfl (x_ilo e2)) ?_
      refine y_next (pc' := 44) (xst_of (i := .iadd) (len := 1) rfl rfl rfl) ?_
      refine z_is (i := (.istore_n 3)) (len := 1) (pc' := 45) (q := 3) rfl rfl rfl (by decide) (fun lv1 hlv => ?_)
      have e0 := xs1_A hlv e0 rfl rfl
      have e1 := xs1_A hlv e1 rfl rfl
      have e2 := xs1_B hlv e2 rfl rfl
      have e3 := xs1_N hlv
      clear hlv
      refine y_next (pc' := 46) (xst_of (i := (.iconst 1)) (len := 1) rfl rfl (x_ico (v := 1) (by decide))) ?_
      refine y_next (pc' := 47) (xst_of (i := (.iconst 0)) (len := 1) rfl rfl (x_ico (v := 0) (by decide))) ?_
      refine y_next (pc' := 48) (xst_of (i := (.iconst 0)) (len := 1) rfl rfl (x_ico (v := 0) (by decide))) ?_
      refine y_next (pc' := 49) (xst_of (i := (.aload_n 0)) (len := 1) rfl rfl (x_aloadV (xisV_r _) e0)) ?_
      refine z_gA (t := (10, 0, 0)) (k := 14) rfl rfl rfl R (rc_10 R) ?_
      refine y_next (pc' := 53) (xst_of (i := (.iload_n 3)) (len := 1) rfl rfl (x_ilo e3)) ?_
      refine z_aI (t := (10, 0, 0)) (k := 14) (n := 38400) (i := ((1600 * (fI Y (10, 0, 0) 5)) + l2)) rfl rfl R (rc_10 R) H.1 ?_
      replace H := H.2
      refine y_next (pc' := 55) (xst_of (i := (.aload_n 0)) (len := 1) rfl rfl (x_aloadV (xisV_r _) e0)) ?_
      refine z_gA (t := (10, 0, 0)) (k := 15) rfl rfl rfl R (rc_10 R) ?_
      refine y_next (pc' := 59) (xst_of (i := (.iload_n 3)) (len := 1) rfl rfl (x_ilo e3)) ?_
      refine z_aI (t := (10, 0, 0)) (k := 15) (n := 38400) (i := ((1600 * (fI Y (10, 0, 0) 5)) + l2)) rfl rfl R (rc_10 R) H.1 ?_
      replace H := H.2
      refine y_next (pc' := 61) (xst_of (i := (.aload_n 0)) (len := 1) rfl rfl (x_aloadV (xisV_r _) e0)) ?_
      refine z_gA (t := (10, 0, 0)) (k := 16) rfl rfl rfl R (rc_10 R) ?_
      refine y_next (pc' := 65) (xst_of (i := (.iload_n 3)) (len := 1) rfl rfl (x_ilo e3)) ?_
      refine z_aI (t := (10, 0, 0)) (k := 16) (n := 38400) (i := ((1600 * (fI Y (10, 0, 0) 5)) + l2)) rfl rfl R (rc_10 R) H.1 ?_
      replace H := H.2
      refine z_cI (k := 142) (i := (.invokestatic 177)) (as := [.int 1, .int 0, .int 0, .int (fA Y (10, 0, 0) 14 (Int32.toNatClampNeg ((1600 * (fI Y (10, 0, 0) 5)) + l2))), .int (fA Y (10, 0, 0) 15 (Int32.toNatClampNeg ((1600 * (fI Y (10, 0, 0) 5)) + l2))), .int (fA Y (10, 0, 0) 16 (Int32.toNatClampNeg ((1600 * (fI Y (10, 0, 0) 5)) + l2)))]) (rest := []) rfl rfl rfl (H _ _ R rfl rfl rfl rfl rfl rfl) (fun x2 h Y1 R H => ?_)
      refine z_is (i := (.istore_n 1)) (len := 1) (pc' := 70) (q := 1) rfl rfl rfl (by decide) (fun lv2 hlv => ?_)
      have e0 := xs1_B hlv e0 rfl rfl
      have e2 := xs1_A hlv e2 rfl rfl
      have e3 := xs1_A hlv e3 rfl rfl
      have e1 := xs1_N hlv
      clear hlv
      refine z_in (q := 2) (n := 1) (v := 1) rfl e2 (by decide) (by decide) (fun lv3 hlv => ?_)
      have e0 := xs1_A hlv e0 rfl rfl
      have e1 := xs1_B hlv e1 rfl rfl
      have e3 := xs1_A hlv e3 rfl rfl
      have e2 := xs1_N hlv
      clear hlv
      refine y_next (pc' := 24) (xst_of (i := (.goto (-49))) (len := 3) rfl rfl rfl) ?_
      exact H _ _ R e0 e1 e2
theorem l_161_76 {V : xV} {g : xG} {Y : xW} {l1 : Int32} {l2 : Int32} {Q : xW → Prop} (H : ((l1 = 0) → L_141_0 V g Y 12 (fun Y1 => L_161_86 V g Y1 l1 l2 Q)) ∧ (¬ (l1 = 0) → L_161_86 V g Y l1 l2 Q)) : L_161_76 V g Y l1 l2 Q := by
  intro h lv R e0 e1 e2
  refine y_next (pc' := 77) (xst_of (i := (.iload_n 1)) (len := 1) rfl rfl (x_ilo e1)) ?_
  by_cases hc : l1 = 0
  · replace H := H.1 hc
    refine y_next (pc' := 80) (xst_of (i := (.ifCond .ne 9)) (len := 3) rfl rfl (xf_if_ne (t := 86) rfl (fun z => z hc))) ?_
    refine y_next (pc' := 81) (xst_of (i := (.aload_n 0)) (len := 1) rfl rfl (x_aloadV (xisV_r _) e0)) ?_
    refine y_next (pc' := 83) (xst_of (i := (.bipush 12)) (len := 2) rfl rfl (x_bip (v := 12) (by decide))) ?_
    refine z_cN (k := 141) (i := (.invokevirtual 187)) (as := [.ref (g.2 (10, 0, 0) 0), .int 12]) (rest := []) rfl rfl (x_callv rfl rfl (rc_ob R (rc_10 R) rfl) rfl rfl) (H _ _ R rfl rfl) (fun h Y1 R H => ?_)
    exact H _ _ R e0 e1 e2
  · replace H := H.2 hc
    refine y_next (xst_of (i := (.ifCond .ne 9)) (len := 3) rfl rfl (xt_if_ne (t := 86) rfl hc)) ?_
    exact H _ _ R e0 e1 e2
theorem l_161_86 {V : xV} {g : xG} {Y : xW} {l1 : Int32} {l2 : Int32} {Q : xW → Prop} (H : Q Y) : L_161_86 V g Y l1 l2 Q := by
  intro h lv R e0 e1 e2
  exact y_ret (xst_of (i := .return_) (len := 1) rfl rfl rfl) ⟨_, rfl, R, H⟩
theorem l_162_0 {V : xV} {g : xG} {Y : xW}  {Q : Int32 → xW → Prop} (H : ∀ Y1, Y1 = uI Y (10, 0, 0) 2 0 → ((0 ≤ (fI Y1 (10, 0, 0) 5)) → ∀ Y2, Y2 = uI Y1 (10, 0, 0) 29 0 → ((0 : Int32) = 0 ∨ (0 : Int32) = 1) ∧ ∀ Y3, Y3 = uI Y2 (10, 0, 0) 27 0 → ∀ Y4, Y4 = uI Y3 (10, 0, 0) 30 0 → vp_in (fI Y1 (10, 0, 0) 5) 24 ∧ (((fA Y4 (10, 0, 0) 8 (Int32.toNatClampNeg (fI Y1 (10, 0, 0) 5))) = 0) → L_162_187 V g Y4 (fI Y1 (10, 0, 0) 5) 1 Q) ∧ (¬ ((fA Y4 (10, 0, 0) 8 (Int32.toNatClampNeg (fI Y1 (10, 0, 0) 5))) = 0) → ∀ Y5, Y5 = uI Y4 (10, 0, 0) 28 0 → L_162_55 V g Y5 (fI Y1 (10, 0, 0) 5) 0 Q)) ∧ (¬ (0 ≤ (fI Y1 (10, 0, 0) 5)) → Q (-1) Y1)) : L_162_0 V g Y  Q := by
  intro h lv R e0
  refine y_next (pc' := 1) (xst_of (i := (.aload_n 0)) (len := 1) rfl rfl (x_aloadV (xisV_r _) e0)) ?_
  refine y_next (pc' := 2) (xst_of (i := (.iconst 0)) (len := 1) rfl rfl (x_ico (v := 0) (by decide))) ?_
  refine z_pI (t := (10, 0, 0)) (k := 2) rfl rfl rfl rfl rfl R (rc_10 R) (fun h Y1 hY R => ?_)
  replace H := H Y1 hY
  clear hY
  refine y_next (pc' := 6) (xst_of (i := (.aload_n 0)) (len := 1) rfl rfl (x_aloadV (xisV_r _) e0)) ?_
  refine z_gI (t := (10, 0, 0)) (k := 5) rfl rfl rfl R (rc_10 R) ?_
  by_cases hc : 0 ≤ (fI Y1 (10, 0, 0) 5)
  · replace H := H.1 hc
    refine y_next (xst_of (i := (.ifCond .ge 5)) (len := 3) rfl rfl (xt_if_ge (t := 14) rfl hc)) ?_
    refine y_next (pc' := 15) (xst_of (i := (.aload_n 0)) (len := 1) rfl rfl (x_aloadV (xisV_r _) e0)) ?_
    refine z_gI (t := (10, 0, 0)) (k := 5) rfl rfl rfl R (rc_10 R) ?_
    refine z_is (i := (.istore_n 1)) (len := 1) (pc' := 19) (q := 1) rfl rfl rfl (by decide) (fun lv1 hlv => ?_)
    have e0 := xs1_B hlv e0 rfl rfl
    have e1 := xs1_N hlv
    clear hlv
    refine y_next (pc' := 20) (xst_of (i := (.aload_n 0)) (len := 1) rfl rfl (x_aloadV (xisV_r _) e0)) ?_
    refine y_next (pc' := 21) (xst_of (i := (.iconst 0)) (len := 1) rfl rfl (x_ico (v := 0) (by decide))) ?_
    refine z_pI (t := (10, 0, 0)) (k := 29) rfl rfl rfl rfl rfl R (rc_10 R) (fun h Y2 hY R => ?_)
    replace H := H Y2 hY
    clear hY
    refine y_next (pc' := 25) (xst_of (i := (.aload_n 0)) (len := 1) rfl rfl (x_aloadV (xisV_r _) e0)) ?_
    refine y_next (pc' := 26) (xst_of (i := (.iconst 0)) (len := 1) rfl rfl (x_ico (v := 0) (by decide))) ?_
    have hz := H.1
    replace H := H.2
    refine z_pI (t := (10, 0, 0)) (k := 27) rfl rfl rfl (xfit_z hz) rfl R (rc_10 R) (fun h Y3 hY R => ?_)
    replace H := H Y3 hY
    clear hY
    refine y_next (pc' := 30) (xst_of (i := (.aload_n 0)) (len := 1) rfl rfl (x_aloadV (xisV_r _) e0)) ?_
    refine y_next (pc' := 31) (xst_of (i := (.iconst 0)) (len := 1) rfl rfl (x_ico (v := 0) (by decide))) ?_
    refine z_pI (t := (10, 0, 0)) (k := 30) rfl rfl rfl rfl rfl R (rc_10 R) (fun h Y4 hY R => ?_)
    replace H := H Y4 hY
    clear hY
    refine y_next (pc' := 35) (xst_of (i := (.iconst 0)) (len := 1) rfl rfl (x_ico (v := 0) (by decide))) ?_
    refine z_is (i := (.istore_n 2)) (len := 1) (pc' := 36) (q := 2) rfl rfl rfl (by decide) (fun lv2 hlv => ?_)
    have e0 := xs1_A hlv e0 rfl rfl
    have e1 := xs1_B hlv e1 rfl rfl
    have e2 := xs1_N hlv
    clear hlv
    refine y_next (pc' := 37) (xst_of (i := (.aload_n 0)) (len := 1) rfl rfl (x_aloadV (xisV_r _) e0)) ?_
    refine z_gA (t := (10, 0, 0)) (k := 8) rfl rfl rfl R (rc_10 R) ?_
    refine y_next (pc' := 41) (xst_of (i := (.iload_n 1)) (len := 1) rfl rfl (x_ilo e1)) ?_
    refine z_aI (t := (10, 0, 0)) (k := 8) (n := 24) (i := (fI Y1 (10, 0, 0) 5)) rfl rfl R (rc_10 R) H.1 ?_
    replace H := H.2
    by_cases hc : (fA Y4 (10, 0, 0) 8 (Int32.toNatClampNeg (fI Y1 (10, 0, 0) 5))) = 0
    · replace H := H.1 hc
      refine y_next (pc' := 45) (xst_of (i := (.ifCond .ne 8)) (len := 3) rfl rfl (xf_if_ne (t := 50) rfl (fun z => z hc))) ?_
      refine y_next (pc' := 46) (xst_of (i := (.iconst 1)) (len := 1) rfl rfl (x_ico (v := 1) (by decide))) ?_
      refine z_is (i := (.istore_n 2)) (len := 1) (pc' := 47) (q := 2) rfl rfl rfl (by decide) (fun lv3 hlv => ?_)
      have e0 := xs1_A hlv e0 rfl rfl
      have e1 := xs1_B hlv e1 rfl rfl
      have e2 := xs1_N hlv
      clear hlv
      refine y_next (pc' := 187) (xst_of (i := (.goto 140)) (len := 3) rfl rfl rfl) ?_
      exact H _ _ R e0 e1 e2
    · replace H := H.2 hc
      refine y_next (xst_of (i := (.ifCond .ne 8)) (len := 3) rfl rfl (xt_if_ne (t := 50) rfl hc)) ?_
      refine y_next (pc' := 51) (xst_of (i := (.aload_n 0)) (len := 1) rfl rfl (x_aloadV (xisV_r _) e0)) ?_
      refine y_next (pc' := 52) (xst_of (i := (.iconst 0)) (len := 1) rfl rfl (x_ico (v := 0) (by decide))) ?_
      refine z_pI (t := (10, 0, 0)) (k := 28) rfl rfl rfl rfl rfl R (rc_10 R) (fun h Y5 hY R => ?_)
      replace H := H Y5 hY
      clear hY
      exact H _ _ R e0 e1 e2
  · replace H := H.2 hc
    refine y_next (pc' := 12) (xst_of (i := (.ifCond .ge 5)) (len := 3) rfl rfl (xf_if_ge (t := 14) rfl hc)) ?_
    refine y_next (pc' := 13) (xst_of (i := (.iconst (-1))) (len := 1) rfl rfl (x_ico (v := (-1)) (by decide))) ?_
    exact y_ret (xst_of (i := .ireturn) (len := 1) rfl rfl rfl) ⟨_, _, rfl, R, H⟩
theorem l_162_55 {V : xV} {g : xG} {Y : xW} {l1 : Int32} {l2 : Int32} {Q : Int32 → xW → Prop} (H : vp_in l1 24 ∧ (((fA Y (10, 0, 0) 8 (Int32.toNatClampNeg l1)) ≤ (fI Y (10, 0, 0) 28)) → L_162_187 V g Y l1 l2 Q) ∧ (¬ ((fA Y (10, 0, 0) 8 (Int32.toNatClampNeg l1)) ≤ (fI Y (10, 0, 0) 28)) → (((fI Y (10, 0, 0) 29) = 0) → (((fI Y (10, 0, 0) 28) = 0) → L_161_0 V g Y  (fun Y1 => L_162_86 V g Y1 l1 l2 Q)) ∧ (¬ ((fI Y (10, 0, 0) 28) = 0) → L_162_86 V g Y l1 l2 Q)) ∧ (¬ ((fI Y (10, 0, 0) 29) = 0) → L_162_187 V g Y l1 l2 Q))) : L_162_55 V g Y l1 l2 Q := by
  intro h lv R e0 e1 e2
  refine y_next (pc' := 56) (xst_of (i := (.aload_n 0)) (len := 1) rfl rfl (x_aloadV (xisV_r _) e0)) ?_
  refine z_gI (t := (10, 0, 0)) (k := 28) rfl rfl rfl R (rc_10 R) ?_
  refine y_next (pc' := 60) (xst_of (i := (.aload_n 0)) (len := 1) rfl rfl (x_aloadV (xisV_r _) e0)) ?_
  refine z_gA (t := (10, 0, 0)) (k := 8) rfl rfl rfl R (rc_10 R) ?_
  refine y_next (pc' := 64) (xst_of (i := (.iload_n 1)) (len := 1) rfl rfl (x_ilo e1)) ?_
  refine z_aI (t := (10, 0, 0)) (k := 8) (n := 24) (i := l1) rfl rfl R (rc_10 R) H.1 ?_
  replace H := H.2
  by_cases hc : (fA Y (10, 0, 0) 8 (Int32.toNatClampNeg l1)) ≤ (fI Y (10, 0, 0) 28)
  · replace H := H.1 hc
    refine y_next (xst_of (i := (.if_icmp .ge 122)) (len := 3) rfl rfl (xt_icmp_ge (t := 187) rfl hc)) ?_
    exact H _ _ R e0 e1 e2
  · replace H := H.2 hc
    refine y_next (pc' := 68) (xst_of (i := (.if_icmp .ge 122)) (len := 3) rfl rfl (xf_icmp_ge (t := 187) rfl hc)) ?_
    refine y_next (pc' := 69) (xst_of (i := (.aload_n 0)) (len := 1) rfl rfl (x_aloadV (xisV_r _) e0)) ?_
    refine z_gI (t := (10, 0, 0)) (k := 29) rfl rfl rfl R (rc_10 R) ?_
    by_cases hc : (fI Y (10, 0, 0) 29) = 0
    · replace H := H.1 hc
      refine y_next (pc' := 75) (xst_of (i := (.ifCond .ne 115)) (len := 3) rfl rfl (xf_if_ne (t := 187) rfl (fun z => z hc))) ?_
      refine y_next (pc' := 76) (xst_of (i := (.aload_n 0)) (len := 1) rfl rfl (x_aloadV (xisV_r _) e0)) ?_
      refine z_gI (t := (10, 0, 0)) (k := 28) rfl rfl rfl R (rc_10 R) ?_
      by_cases hc : (fI Y (10, 0, 0) 28) = 0
      · replace H := H.1 hc
        refine y_next (pc' := 82) (xst_of (i := (.ifCond .ne 7)) (len := 3) rfl rfl (xf_if_ne (t := 86) rfl (fun z => z hc))) ?_
        refine y_next (pc' := 83) (xst_of (i := (.aload_n 0)) (len := 1) rfl rfl (x_aloadV (xisV_r _) e0)) ?_
        refine z_cN (k := 161) (i := (.invokevirtual 280)) (as := [.ref (g.2 (10, 0, 0) 0)]) (rest := []) rfl rfl (x_callv rfl rfl (rc_ob R (rc_10 R) rfl) rfl rfl) (H _ _ R rfl) (fun h Y1 R H => ?_)
        exact H _ _ R e0 e1 e2
      · replace H := H.2 hc
        refine y_next (xst_of (i := (.ifCond .ne 7)) (len := 3) rfl rfl (xt_if_ne (t := 86) rfl hc)) ?_
        exact H _ _ R e0 e1 e2
    · replace H := H.2 hc
      refine y_next (xst_of (i := (.ifCond .ne 115)) (len := 3) rfl rfl (xt_if_ne (t := 187) rfl hc)) ?_
      exact H _ _ R e0 e1 e2
theorem l_162_86 {V : xV} {g : xG} {Y : xW} {l1 : Int32} {l2 : Int32} {Q : Int32 → xW → Prop} (H : vp_in ((200 * l1) + (fI Y (10, 0, 0) 28)) 4800 ∧ (((fA Y (10, 0, 0) 13 (Int32.toNatClampNeg ((200 * l1) + (fI Y (10, 0, 0) 28)))) < 0) → (((fI Y (10, 0, 0) 27) = 0) → L_141_0 V g Y 7 (fun Y1 => L_162_137 V g Y1 l1 l2 ((200 * l1) + (fI Y (10, 0, 0) 28)) Q)) ∧ (¬ ((fI Y (10, 0, 0) 27) = 0) → L_162_137 V g Y l1 l2 ((200 * l1) + (fI Y (10, 0, 0) 28)) Q)) ∧ (¬ ((fA Y (10, 0, 0) 13 (Int32.toNatClampNeg ((200 * l1) + (fI Y (10, 0, 0) 28)))) < 0) → vp_in ((200 * l1) + (fI Y (10, 0, 0) 28)) 4800 ∧ ∀ Y2, Y2 = uI Y (10, 0, 0) 30 (fA Y (10, 0, 0) 13 (Int32.toNatClampNeg ((200 * l1) + (fI Y (10, 0, 0) 28)))) → L_160_0 V g Y2 ((200 * l1) + (fI Y (10, 0, 0) 28)) (fun Y3 => L_162_137 V g Y3 l1 l2 ((200 * l1) + (fI Y (10, 0, 0) 28)) Q))) : L_162_86 V g Y l1 l2 Q := by
  intro h lv R e0 e1 e2
  refine y_next (pc' := 89) (xst_of (i := (.sipush 200)) (len := 3) rfl rfl (x_sip (v := 200) (by decide))) ?_
  refine y_next (pc' := 90) (xst_of (i := (.iload_n 1)) (len := 1) rfl rfl (x_ilo e1)) ?_
  refine y_next (pc' := 91) (xst_of (i := .imul) (len := 1) rfl rfl rfl) ?_
  refine y_next (pc' := 92) (xst_of (i := (.aload_n 0)) (len := 1) rfl rfl (x_aloadV (xisV_r _) e0)) ?_
  refine z_gI (t := (10, 0, 0)) (k := 28) rfl rfl rfl R (rc_10 R) ?_
  refine y_next (pc' := 96) (xst_of (i := .iadd) (len := 1) rfl rfl rfl) ?_
  refine z_is (i := (.istore_n 3)) (len := 1) (pc' := 97) (q := 3) rfl rfl rfl (by decide) (fun lv1 hlv => ?_)
  have e0 := xs1_A hlv e0 rfl rfl
  have e1 := xs1_A hlv e1 rfl rfl
  have e2 := xs1_B hlv e2 rfl rfl
  have e3 := xs1_N hlv
  clear hlv
  refine y_next (pc' := 98) (xst_of (i := (.aload_n 0)) (len := 1) rfl rfl (x_aloadV (xisV_r _) e0)) ?_
  refine z_gA (t := (10, 0, 0)) (k := 13) rfl rfl rfl R (rc_10 R) ?_
  refine y_next (pc' := 102) (xst_of (i := (.iload_n 3)) (len := 1) rfl rfl (x_ilo e3)) ?_
  refine z_aI (t := (10, 0, 0)) (k := 13) (n := 4800) (i := ((200 * l1) + (fI Y (10, 0, 0) 28))) rfl rfl R (rc_10 R) H.1 ?_
  replace H := H.2
  by_cases hc : (fA Y (10, 0, 0) 13 (Int32.toNatClampNeg ((200 * l1) + (fI Y (10, 0, 0) 28)))) < 0
  · replace H := H.1 hc
    refine y_next (xst_of (i := (.ifCond .lt 21)) (len := 3) rfl rfl (xt_if_lt (t := 124) rfl hc)) ?_
    refine y_next (pc' := 125) (xst_of (i := (.aload_n 0)) (len := 1) rfl rfl (x_aloadV (xisV_r _) e0)) ?_
    refine z_gI (t := (10, 0, 0)) (k := 27) rfl rfl rfl R (rc_10 R) ?_
    by_cases hc : (fI Y (10, 0, 0) 27) = 0
    · replace H := H.1 hc
      refine y_next (pc' := 131) (xst_of (i := (.ifCond .ne 9)) (len := 3) rfl rfl (xf_if_ne (t := 137) rfl (fun z => z hc))) ?_
      refine y_next (pc' := 132) (xst_of (i := (.aload_n 0)) (len := 1) rfl rfl (x_aloadV (xisV_r _) e0)) ?_
      refine y_next (pc' := 134) (xst_of (i := (.bipush 7)) (len := 2) rfl rfl (x_bip (v := 7) (by decide))) ?_
      refine z_cN (k := 141) (i := (.invokevirtual 187)) (as := [.ref (g.2 (10, 0, 0) 0), .int 7]) (rest := []) rfl rfl (x_callv rfl rfl (rc_ob R (rc_10 R) rfl) rfl rfl) (H _ _ R rfl rfl) (fun h Y1 R H => ?_)
      exact H _ _ R e0 e1 e2 e3
    · replace H := H.2 hc
      refine y_next (xst_of (i := (.ifCond .ne 9)) (len := 3) rfl rfl (xt_if_ne (t := 137) rfl hc)) ?_
      exact H _ _ R e0 e1 e2 e3
  · replace H := H.2 hc
    refine y_next (pc' := 106) (xst_of (i := (.ifCond .lt 21)) (len := 3) rfl rfl (xf_if_lt (t := 124) rfl hc)) ?_
    refine y_next (pc' := 107) (xst_of (i := (.aload_n 0)) (len := 1) rfl rfl (x_aloadV (xisV_r _) e0)) ?_
    refine y_next (pc' := 108) (xst_of (i := (.aload_n 0)) (len := 1) rfl rfl (x_aloadV (xisV_r _) e0)) ?_
    refine z_gA (t := (10, 0, 0)) (k := 13) rfl rfl rfl R (rc_10 R) ?_
    refine y_next (pc' := 112) (xst_of (i := (.iload_n 3)) (len := 1) rfl rfl (x_ilo e3)) ?_
    refine z_aI (t := (10, 0, 0)) (k := 13) (n := 4800) (i := ((200 * l1) + (fI Y (10, 0, 0) 28))) rfl rfl R (rc_10 R) H.1 ?_
    replace H := H.2
    refine z_pI (t := (10, 0, 0)) (k := 30) rfl rfl rfl rfl rfl R (rc_10 R) (fun h Y2 hY R => ?_)
    replace H := H Y2 hY
    clear hY
    refine y_next (pc' := 117) (xst_of (i := (.aload_n 0)) (len := 1) rfl rfl (x_aloadV (xisV_r _) e0)) ?_
    refine y_next (pc' := 118) (xst_of (i := (.iload_n 3)) (len := 1) rfl rfl (x_ilo e3)) ?_
    refine z_cN (k := 160) (i := (.invokevirtual 283)) (as := [.ref (g.2 (10, 0, 0) 0), .int ((200 * l1) + (fI Y (10, 0, 0) 28))]) (rest := []) rfl rfl (x_callv rfl rfl (rc_ob R (rc_10 R) rfl) rfl rfl) (H _ _ R rfl rfl) (fun h Y3 R H => ?_)
    refine y_next (pc' := 137) (xst_of (i := (.goto 16)) (len := 3) rfl rfl rfl) ?_
    exact H _ _ R e0 e1 e2 e3
theorem l_162_137 {V : xV} {g : xG} {Y : xW} {l1 : Int32} {l2 : Int32} {l3 : Int32} {Q : Int32 → xW → Prop} (H : (((fI Y (10, 0, 0) 29) = 0) → vp_in l3 4800 ∧ L_159_0 V g Y (fA Y (10, 0, 0) 12 (Int32.toNatClampNeg l3)) (fun Y1 => L_162_154 V g Y1 l1 l2 l3 Q)) ∧ (¬ ((fI Y (10, 0, 0) 29) = 0) → L_162_154 V g Y l1 l2 l3 Q)) : L_162_137 V g Y l1 l2 l3 Q := by
  intro h lv R e0 e1 e2 e3
  refine y_next (pc' := 138) (xst_of (i := (.aload_n 0)) (len := 1) rfl rfl (x_aloadV (xisV_r _) e0)) ?_
  refine z_gI (t := (10, 0, 0)) (k := 29) rfl rfl rfl R (rc_10 R) ?_
  by_cases hc : (fI Y (10, 0, 0) 29) = 0
  · replace H := H.1 hc
    refine y_next (pc' := 144) (xst_of (i := (.ifCond .ne 13)) (len := 3) rfl rfl (xf_if_ne (t := 154) rfl (fun z => z hc))) ?_
    refine y_next (pc' := 145) (xst_of (i := (.aload_n 0)) (len := 1) rfl rfl (x_aloadV (xisV_r _) e0)) ?_
    refine y_next (pc' := 146) (xst_of (i := (.aload_n 0)) (len := 1) rfl rfl (x_aloadV (xisV_r _) e0)) ?_
    refine z_gA (t := (10, 0, 0)) (k := 12) rfl rfl rfl R (rc_10 R) ?_
    refine y_next (pc' := 150) (xst_of (i := (.iload_n 3)) (len := 1) rfl rfl (x_ilo e3)) ?_
    refine z_aI (t := (10, 0, 0)) (k := 12) (n := 4800) (i := l3) rfl rfl R (rc_10 R) H.1 ?_
    replace H := H.2
    refine z_cN (k := 159) (i := (.invokevirtual 286)) (as := [.ref (g.2 (10, 0, 0) 0), .int (fA Y (10, 0, 0) 12 (Int32.toNatClampNeg l3))]) (rest := []) rfl rfl (x_callv rfl rfl (rc_ob R (rc_10 R) rfl) rfl rfl) (H _ _ R rfl rfl) (fun h Y1 R H => ?_)
    exact H _ _ R e0 e1 e2 e3
  · replace H := H.2 hc
    refine y_next (xst_of (i := (.ifCond .ne 13)) (len := 3) rfl rfl (xt_if_ne (t := 154) rfl hc)) ?_
    exact H _ _ R e0 e1 e2 e3
theorem l_162_154 {V : xV} {g : xG} {Y : xW} {l1 : Int32} {l2 : Int32} {l3 : Int32} {Q : Int32 → xW → Prop} (H : (((fI Y (10, 0, 0) 29) = 0) → L_162_174 V g Y l1 l2 l3 Q) ∧ (¬ ((fI Y (10, 0, 0) 29) = 0) → L_162_174 V g Y l1 ((16 * (fI Y (10, 0, 0) 28)) + (fI Y (10, 0, 0) 29)) l3 Q)) : L_162_154 V g Y l1 l2 l3 Q := by
  intro h lv R e0 e1 e2 e3
  refine y_next (pc' := 155) (xst_of (i := (.aload_n 0)) (len := 1) rfl rfl (x_aloadV (xisV_r _) e0)) ?_
  refine z_gI (t := (10, 0, 0)) (k := 29) rfl rfl rfl R (rc_10 R) ?_
  by_cases hc : (fI Y (10, 0, 0) 29) = 0
  · replace H := H.1 hc
    refine y_next (xst_of (i := (.ifCond .eq 16)) (len := 3) rfl rfl (xt_if_eq (t := 174) rfl hc)) ?_
    exact H _ _ R e0 e1 e2 e3
  · replace H := H.2 hc
    refine y_next (pc' := 161) (xst_of (i := (.ifCond .eq 16)) (len := 3) rfl rfl (xf_if_eq (t := 174) rfl hc)) ?_
    refine y_next (pc' := 163) (xst_of (i := (.bipush 16)) (len := 2) rfl rfl (x_bip (v := 16) (by decide))) ?_
    refine y_next (pc' := 164) (xst_of (i := (.aload_n 0)) (len := 1) rfl rfl (x_aloadV (xisV_r _) e0)) ?_
    refine z_gI (t := (10, 0, 0)) (k := 28) rfl rfl rfl R (rc_10 R) ?_
    refine y_next (pc' := 168) (xst_of (i := .imul) (len := 1) rfl rfl rfl) ?_
    refine y_next (pc' := 169) (xst_of (i := (.aload_n 0)) (len := 1) rfl rfl (x_aloadV (xisV_r _) e0)) ?_
    refine z_gI (t := (10, 0, 0)) (k := 29) rfl rfl rfl R (rc_10 R) ?_
    refine y_next (pc' := 173) (xst_of (i := .iadd) (len := 1) rfl rfl rfl) ?_
    refine z_is (i := (.istore_n 2)) (len := 1) (pc' := 174) (q := 2) rfl rfl rfl (by decide) (fun lv1 hlv => ?_)
    have e0 := xs1_A hlv e0 rfl rfl
    have e1 := xs1_B hlv e1 rfl rfl
    have e3 := xs1_A hlv e3 rfl rfl
    have e2 := xs1_N hlv
    clear hlv
    exact H _ _ R e0 e1 e2 e3
theorem l_162_174 {V : xV} {g : xG} {Y : xW} {l1 : Int32} {l2 : Int32} {l3 : Int32} {Q : Int32 → xW → Prop} (H : ∀ Y1, Y1 = uI Y (10, 0, 0) 28 ((fI Y (10, 0, 0) 28) + 1) → L_162_55 V g Y1 l1 l2 Q) : L_162_174 V g Y l1 l2 l3 Q := by
  intro h lv R e0 e1 e2 e3
  refine y_next (pc' := 175) (xst_of (i := (.aload_n 0)) (len := 1) rfl rfl (x_aloadV (xisV_r _) e0)) ?_
  refine y_next (pc' := 176) (xst_of (i := .dup) (len := 1) rfl rfl (x_dup rfl)) ?_
  refine z_gI (t := (10, 0, 0)) (k := 28) rfl rfl rfl R (rc_10 R) ?_
  refine y_next (pc' := 180) (xst_of (i := (.iconst 1)) (len := 1) rfl rfl (x_ico (v := 1) (by decide))) ?_
  refine y_next (pc' := 181) (xst_of (i := .iadd) (len := 1) rfl rfl rfl) ?_
  refine z_pI (t := (10, 0, 0)) (k := 28) rfl rfl rfl rfl rfl R (rc_10 R) (fun h Y1 hY R => ?_)
  replace H := H Y1 hY
  clear hY
  refine y_next (pc' := 55) (xst_of (i := (.goto (-129))) (len := 3) rfl rfl rfl) ?_
  exact H _ _ R e0 e1 e2
theorem l_162_187 {V : xV} {g : xG} {Y : xW} {l1 : Int32} {l2 : Int32} {Q : Int32 → xW → Prop} (H : vp_in l1 24 ∧ ∀ Y1, Y1 = uA Y (10, 0, 0) 11 (Int32.toNatClampNeg l1) l2 → ((l2 = 0) → L_162_208 V g Y1 l1 l2 l1 1 Q) ∧ (¬ (l2 = 0) → L_162_208 V g Y1 l1 l2 l1 2 Q)) : L_162_187 V g Y l1 l2 Q := by
  intro h lv R e0 e1 e2
  refine y_next (pc' := 188) (xst_of (i := (.aload_n 0)) (len := 1) rfl rfl (x_aloadV (xisV_r _) e0)) ?_
  refine z_gA (t := (10, 0, 0)) (k := 11) rfl rfl rfl R (rc_10 R) ?_
  refine y_next (pc' := 192) (xst_of (i := (.iload_n 1)) (len := 1) rfl rfl (x_ilo e1)) ?_
  refine y_next (pc' := 193) (xst_of (i := (.iload_n 2)) (len := 1) rfl rfl (x_ilo e2)) ?_
  refine z_sI (t := (10, 0, 0)) (k := 11) (n := 24) (i := l1) rfl rfl R (rc_10 R) H.1 (fun h Y1 hY R => ?_)
  replace H := H.2 Y1 hY
  clear hY
  refine y_next (pc' := 195) (xst_of (i := (.aload_n 0)) (len := 1) rfl rfl (x_aloadV (xisV_r _) e0)) ?_
  refine z_gA (t := (10, 0, 0)) (k := 6) rfl rfl rfl R (rc_10 R) ?_
  refine y_next (pc' := 199) (xst_of (i := (.iload_n 1)) (len := 1) rfl rfl (x_ilo e1)) ?_
  refine y_next (pc' := 200) (xst_of (i := (.iload_n 2)) (len := 1) rfl rfl (x_ilo e2)) ?_
  by_cases hc : l2 = 0
  · replace H := H.1 hc
    refine y_next (pc' := 203) (xst_of (i := (.ifCond .ne 7)) (len := 3) rfl rfl (xf_if_ne (t := 207) rfl (fun z => z hc))) ?_
    refine y_next (pc' := 204) (xst_of (i := (.iconst 1)) (len := 1) rfl rfl (x_ico (v := 1) (by decide))) ?_
    refine y_next (pc' := 208) (xst_of (i := (.goto 4)) (len := 3) rfl rfl rfl) ?_
    exact H _ _ R e0 e1 e2
  · replace H := H.2 hc
    refine y_next (xst_of (i := (.ifCond .ne 7)) (len := 3) rfl rfl (xt_if_ne (t := 207) rfl hc)) ?_
    refine y_next (pc' := 208) (xst_of (i := (.iconst 2)) (len := 1) rfl rfl (x_ico (v := 2) (by decide))) ?_
    exact H _ _ R e0 e1 e2
theorem l_162_208 {V : xV} {g : xG} {Y : xW} {l1 : Int32} {l2 : Int32} {s1 : Int32} {s2 : Int32} {Q : Int32 → xW → Prop} (H : vp_in s1 24 ∧ ∀ Y1, Y1 = uA Y (10, 0, 0) 6 (Int32.toNatClampNeg s1) s2 → ∀ Y2, Y2 = uI Y1 (10, 0, 0) 5 (-1) → ((l2 = 0) → L_163_0 V g Y2 l1 (fun Y3 => L_162_223 V g Y3 l1 l2 Q)) ∧ (¬ (l2 = 0) → L_162_223 V g Y2 l1 l2 Q)) : L_162_208 V g Y l1 l2 s1 s2 Q := by
  intro h lv R e0 e1 e2
  refine z_sI (t := (10, 0, 0)) (k := 6) (n := 24) (i := s1) rfl rfl R (rc_10 R) H.1 (fun h Y1 hY R => ?_)
  replace H := H.2 Y1 hY
  clear hY
  refine y_next (pc' := 210) (xst_of (i := (.aload_n 0)) (len := 1) rfl rfl (x_aloadV (xisV_r _) e0)) ?_
  refine y_next (pc' := 211) (xst_of (i := (.iconst (-1))) (len := 1) rfl rfl (x_ico (v := (-1)) (by decide))) ?_
  refine z_pI (t := (10, 0, 0)) (k := 5) rfl rfl rfl rfl rfl R (rc_10 R) (fun h Y2 hY R => ?_)
  replace H := H Y2 hY
  clear hY
  refine y_next (pc' := 215) (xst_of (i := (.iload_n 2)) (len := 1) rfl rfl (x_ilo e2)) ?_
  by_cases hc : l2 = 0
  · replace H := H.1 hc
    refine y_next (pc' := 218) (xst_of (i := (.ifCond .ne 8)) (len := 3) rfl rfl (xf_if_ne (t := 223) rfl (fun z => z hc))) ?_
    refine y_next (pc' := 219) (xst_of (i := (.aload_n 0)) (len := 1) rfl rfl (x_aloadV (xisV_r _) e0)) ?_
    refine y_next (pc' := 220) (xst_of (i := (.iload_n 1)) (len := 1) rfl rfl (x_ilo e1)) ?_
    refine z_cN (k := 163) (i := (.invokevirtual 289)) (as := [.ref (g.2 (10, 0, 0) 0), .int l1]) (rest := []) rfl rfl (x_callv rfl rfl (rc_ob R (rc_10 R) rfl) rfl rfl) (H _ _ R rfl rfl) (fun h Y3 R H => ?_)
    exact H _ _ R e0 e1 e2
  · replace H := H.2 hc
    refine y_next (xst_of (i := (.ifCond .ne 8)) (len := 3) rfl rfl (xt_if_ne (t := 223) rfl hc)) ?_
    exact H _ _ R e0 e1 e2
theorem l_162_223 {V : xV} {g : xG} {Y : xW} {l1 : Int32} {l2 : Int32} {Q : Int32 → xW → Prop} (H : Q l2 Y) : L_162_223 V g Y l1 l2 Q := by
  intro h lv R e0 e1 e2
  refine y_next (pc' := 224) (xst_of (i := (.iload_n 2)) (len := 1) rfl rfl (x_ilo e2)) ?_
  exact y_ret (xst_of (i := .ireturn) (len := 1) rfl rfl rfl) ⟨_, _, rfl, R, H⟩
theorem l_163_0 {V : xV} {g : xG} {Y : xW} {l1 : Int32} {Q : xW → Prop} (H : vp_in l1 24 ∧ L_163_9 V g Y l1 ((fA Y (10, 0, 0) 9 (Int32.toNatClampNeg l1)) - 1) Q) : L_163_0 V g Y l1 Q := by
  intro h lv R e0 e1
  refine y_next (pc' := 1) (xst_of (i := (.aload_n 0)) (len := 1) rfl rfl (x_aloadV (xisV_r _) e0)) ?_
  refine z_gA (t := (10, 0, 0)) (k := 9) rfl rfl rfl R (rc_10 R) ?_
  refine y_next (pc' := 5) (xst_of (i := (.iload_n 1)) (len := 1) rfl rfl (x_ilo e1)) ?_
  refine z_aI (t := (10, 0, 0)) (k := 9) (n := 24) (i := l1) rfl rfl R (rc_10 R) H.1 ?_
  replace H := H.2
  refine y_next (pc' := 7) (xst_of (i := (.iconst 1)) (len := 1) rfl rfl (x_ico (v := 1) (by decide))) ?_
  refine y_next (pc' := 8) (xst_of (i := .isub) (len := 1) rfl rfl rfl) ?_
  refine z_is (i := (.istore_n 2)) (len := 1) (pc' := 9) (q := 2) rfl rfl rfl (by decide) (fun lv1 hlv => ?_)
  have e0 := xs1_A hlv e0 rfl rfl
  have e1 := xs1_B hlv e1 rfl rfl
  have e2 := xs1_N hlv
  clear hlv
  exact H _ _ R e0 e1 e2
theorem l_163_9 {V : xV} {g : xG} {Y : xW} {l1 : Int32} {l2 : Int32} {Q : xW → Prop} (H : ((l2 < 0) → Q Y) ∧ (¬ (l2 < 0) → L_163_21 V g Y l1 l2 0 0 0 Q)) : L_163_9 V g Y l1 l2 Q := by
  intro h lv R e0 e1 e2
  refine y_next (pc' := 10) (xst_of (i := (.iload_n 2)) (len := 1) rfl rfl (x_ilo e2)) ?_
  by_cases hc : l2 < 0
  · replace H := H.1 hc
    refine y_next (xst_of (i := (.ifCond .lt 187)) (len := 3) rfl rfl (xt_if_lt (t := 197) rfl hc)) ?_
    exact y_ret (xst_of (i := .return_) (len := 1) rfl rfl rfl) ⟨_, rfl, R, H⟩
  · replace H := H.2 hc
    refine y_next (pc' := 13) (xst_of (i := (.ifCond .lt 187)) (len := 3) rfl rfl (xf_if_lt (t := 197) rfl hc)) ?_
    refine y_next (pc' := 14) (xst_of (i := (.iconst 0)) (len := 1) rfl rfl (x_ico (v := 0) (by decide))) ?_
    refine z_is (i := (.istore_n 3)) (len := 1) (pc' := 15) (q := 3) rfl rfl rfl (by decide) (fun lv1 hlv => ?_)
    have e0 := xs1_A hlv e0 rfl rfl
    have e1 := xs1_A hlv e1 rfl rfl
    have e2 := xs1_B hlv e2 rfl rfl
    have e3 := xs1_N hlv
    clear hlv
    refine y_next (pc' := 16) (xst_of (i := (.iconst 0)) (len := 1) rfl rfl (x_ico (v := 0) (by decide))) ?_
    refine z_is (i := (.istore 4)) (len := 2) (pc' := 18) (q := 4) rfl rfl rfl (by decide) (fun lv2 hlv => ?_)
    have e0 := xs1_A hlv e0 rfl rfl
    have e1 := xs1_A hlv e1 rfl rfl
    have e2 := xs1_A hlv e2 rfl rfl
    have e3 := xs1_B hlv e3 rfl rfl
    have e4 := xs1_N hlv
    clear hlv
    refine y_next (pc' := 19) (xst_of (i := (.iconst 0)) (len := 1) rfl rfl (x_ico (v := 0) (by decide))) ?_
    refine z_is (i := (.istore 5)) (len := 2) (pc' := 21) (q := 5) rfl rfl rfl (by decide) (fun lv3 hlv => ?_)
    have e0 := xs1_A hlv e0 rfl rfl
    have e1 := xs1_A hlv e1 rfl rfl
    have e2 := xs1_A hlv e2 rfl rfl
    have e3 := xs1_A hlv e3 rfl rfl
    have e4 := xs1_B hlv e4 rfl rfl
    have e5 := xs1_N hlv
    clear hlv
    exact H _ _ R e0 e1 e2 e3 e4 e5
theorem l_163_21 {V : xV} {g : xG} {Y : xW} {l1 : Int32} {l2 : Int32} {l3 : Int32} {l4 : Int32} {l5 : Int32} {Q : xW → Prop} (H : vp_in l1 24 ∧ (((fA Y (10, 0, 0) 8 (Int32.toNatClampNeg l1)) ≤ l5) → vp_in ((8 * l1) + l2) 192 ∧ ∀ Y1, Y1 = uA Y (10, 0, 0) 18 (Int32.toNatClampNeg ((8 * l1) + l2)) l3 → L_163_9 V g Y1 l1 (l2 + (-1)) Q) ∧ (¬ ((fA Y (10, 0, 0) 8 (Int32.toNatClampNeg l1)) ≤ l5) → vp_in ((200 * l1) + l5) 4800 ∧ L_130_0 V g Y (fA Y (10, 0, 0) 12 (Int32.toNatClampNeg ((200 * l1) + l5))) (fun x3 Y2 => vp_in ((200 * l1) + l5) 4800 ∧ (((fA Y2 (10, 0, 0) 13 (Int32.toNatClampNeg ((200 * l1) + l5))) < 0) → L_163_85 V g Y2 l1 l2 l3 l4 l5 (fA Y (10, 0, 0) 12 (Int32.toNatClampNeg ((200 * l1) + l5))) x3 Q) ∧ (¬ ((fA Y2 (10, 0, 0) 13 (Int32.toNatClampNeg ((200 * l1) + l5))) < 0) → vp_in ((200 * l1) + l5) 4800 ∧ L_163_85 V g Y2 l1 l2 l3 (fA Y2 (10, 0, 0) 13 (Int32.toNatClampNeg ((200 * l1) + l5))) l5 (fA Y (10, 0, 0) 12 (Int32.toNatClampNeg ((200 * l1) + l5))) x3 Q)))) : L_163_21 V g Y l1 l2 l3 l4 l5 Q := by
  intro h lv R e0 e1 e2 e3 e4 e5
  refine y_next (pc' := 23) (xst_of (i := (.iload 5)) (len := 2) rfl rfl (x_ilo e5)) ?_
  refine y_next (pc' := 24) (xst_of (i := (.aload_n 0)) (len := 1) rfl rfl (x_aloadV (xisV_r _) e0)) ?_
  refine z_gA (t := (10, 0, 0)) (k := 8) rfl rfl rfl R (rc_10 R) ?_
  refine y_next (pc' := 28) (xst_of (i := (.iload_n 1)) (len := 1) rfl rfl (x_ilo e1)) ?_
  refine z_aI (t := (10, 0, 0)) (k := 8) (n := 24) (i := l1) rfl rfl R (rc_10 R) H.1 ?_
  replace H := H.2
  by_cases hc : (fA Y (10, 0, 0) 8 (Int32.toNatClampNeg l1)) ≤ l5
  · replace H := H.1 hc
    refine y_next (xst_of (i := (.if_icmp .ge 150)) (len := 3) rfl rfl (xt_icmp_ge (t := 179) rfl hc)) ?_
    refine y_next (pc' := 180) (xst_of (i := (.aload_n 0)) (len := 1) rfl rfl (x_aloadV (xisV_r _) e0)) ?_
    refine z_gA (t := (10, 0, 0)) (k := 18) rfl rfl rfl R (rc_10 R) ?_
    refine y_next (pc' := 185) (xst_of (i := (.bipush 8)) (len := 2) rfl rfl (x_bip (v := 8) (by decide))) ?_
    refine y_next (pc' := 186) (xst_of (i := (.iload_n 1)) (len := 1) rfl rfl (x_ilo e1)) ?_
    refine y_next (pc' := 187) (xst_of (i := .imul) (len := 1) rfl rfl rfl) ?_
    refine y_next (pc' := 188) (xst_of (i := (.iload_n 2)) (len := 1) rfl rfl (x_ilo e2)) ?_
    refine y_next (pc' := 189) (xst_of (i := .iadd) (len := 1) rfl rfl rfl) ?_
    refine y_next (pc' := 190) (xst_of (i := (.iload_n 3)) (len := 1) rfl rfl (x_ilo e3)) ?_
    refine z_sI (t := (10, 0, 0)) (k := 18) (n := 192) (i := ((8 * l1) + l2)) rfl rfl R (rc_10 R) H.1 (fun h Y1 hY R => ?_)
    replace H := H.2 Y1 hY
    clear hY
    refine z_in (q := 2) (n := (-1)) (v := (-1)) rfl e2 (by decide) (by decide) (fun lv1 hlv => ?_)
    have e0 := xs1_A hlv e0 rfl rfl
    have e1 := xs1_B hlv e1 rfl rfl
    have e3 := xs1_A hlv e3 rfl rfl
    have e4 := xs1_A hlv e4 rfl rfl
    have e5 := xs1_A hlv e5 rfl rfl
    have e2 := xs1_N hlv
    clear hlv
    refine y_next (pc' := 9) (xst_of (i := (.goto (-185))) (len := 3) rfl rfl rfl) ?_
    exact H _ _ R e0 e1 e2
  · replace H := H.2 hc
    refine y_next (pc' := 32) (xst_of (i := (.if_icmp .ge 150)) (len := 3) rfl rfl (xf_icmp_ge (t := 179) rfl hc)) ?_
    refine y_next (pc' := 33) (xst_of (i := (.aload_n 0)) (len := 1) rfl rfl (x_aloadV (xisV_r _) e0)) ?_
    refine z_gA (t := (10, 0, 0)) (k := 12) rfl rfl rfl R (rc_10 R) ?_
    refine y_next (pc' := 39) (xst_of (i := (.sipush 200)) (len := 3) rfl rfl (x_sip (v := 200) (by decide))) ?_
    refine y_next (pc' := 40) (xst_of (i := (.iload_n 1)) (len := 1) rfl rfl (x_ilo e1)) ?_
    refine y_next (pc' := 41) (xst_of (i := .imul) (len := 1) rfl rfl rfl) ?_
    refine y_next (pc' := 43) (xst_of (i := (.iload 5)) (len := 2) rfl rfl (x_ilo e5)) ?_
    refine y_next (pc' := 44) (xst_of (i := .iadd) (len := 1) rfl rfl rfl) ?_
    refine z_aI (t := (10, 0, 0)) (k := 12) (n := 4800) (i := ((200 * l1) + l5)) rfl rfl R (rc_10 R) H.1 ?_
    replace H := H.2
    refine z_is (i := (.istore 6)) (len := 2) (pc' := 47) (q := 6) rfl rfl rfl (by decide) (fun lv2 hlv => ?_)
    have e0 := xs1_A hlv e0 rfl rfl
    have e1 := xs1_A hlv e1 rfl rfl
    have e2 := xs1_A hlv e2 rfl rfl
    have e3 := xs1_A hlv e3 rfl rfl
    have e4 := xs1_A hlv e4 rfl rfl
    have e5 := xs1_B hlv e5 rfl rfl
    have e6 := xs1_N hlv
    clear hlv
    refine y_next (pc' := 49) (xst_of (i := (.iload 6)) (len := 2) rfl rfl (x_ilo e6)) ?_
    refine z_cI (k := 130) (i := (.invokestatic 154)) (as := [.int (fA Y (10, 0, 0) 12 (Int32.toNatClampNeg ((200 * l1) + l5)))]) (rest := []) rfl rfl rfl (H _ _ R rfl) (fun x3 h Y2 R H => ?_)
    refine z_is (i := (.istore 7)) (len := 2) (pc' := 54) (q := 7) rfl rfl rfl (by decide) (fun lv3 hlv => ?_)
    have e0 := xs1_A hlv e0 rfl rfl
    have e1 := xs1_A hlv e1 rfl rfl
    have e2 := xs1_A hlv e2 rfl rfl
    have e3 := xs1_A hlv e3 rfl rfl
    have e4 := xs1_A hlv e4 rfl rfl
    have e5 := xs1_A hlv e5 rfl rfl
    have e6 := xs1_B hlv e6 rfl rfl
    have e7 := xs1_N hlv
    clear hlv
    refine y_next (pc' := 55) (xst_of (i := (.aload_n 0)) (len := 1) rfl rfl (x_aloadV (xisV_r _) e0)) ?_
    refine z_gA (t := (10, 0, 0)) (k := 13) rfl rfl rfl R (rc_10 R) ?_
    refine y_next (pc' := 61) (xst_of (i := (.sipush 200)) (len := 3) rfl rfl (x_sip (v := 200) (by decide))) ?_
    refine y_next (pc' := 62) (xst_of (i := (.iload_n 1)) (len := 1) rfl rfl (x_ilo e1)) ?_
    refine y_next (pc' := 63) (xst_of (i := .imul) (len := 1) rfl rfl rfl) ?_
    refine y_next (pc' := 65) (xst_of (i := (.iload 5)) (len := 2) rfl rfl (x_ilo e5)) ?_
    refine y_next (pc' := 66) (xst_of (i := .iadd) (len := 1) rfl rfl rfl) ?_
    refine z_aI (t := (10, 0, 0)) (k := 13) (n := 4800) (i := ((200 * l1) + l5)) rfl rfl R (rc_10 R) H.1 ?_
    replace H := H.2
    by_cases hc : (fA Y2 (10, 0, 0) 13 (Int32.toNatClampNeg ((200 * l1) + l5))) < 0
    · replace H := H.1 hc
      refine y_next (xst_of (i := (.ifCond .lt 18)) (len := 3) rfl rfl (xt_if_lt (t := 85) rfl hc)) ?_
      exact H _ _ R e0 e1 e2 e3 e4 e5 e6 e7
    · replace H := H.2 hc
      refine y_next (pc' := 70) (xst_of (i := (.ifCond .lt 18)) (len := 3) rfl rfl (xf_if_lt (t := 85) rfl hc)) ?_
      refine y_next (pc' := 71) (xst_of (i := (.aload_n 0)) (len := 1) rfl rfl (x_aloadV (xisV_r _) e0)) ?_
      refine z_gA (t := (10, 0, 0)) (k := 13) rfl rfl rfl R (rc_10 R) ?_
      refine y_next (pc' := 77) (xst_of (i := (.sipush 200)) (len := 3) rfl rfl (x_sip (v := 200) (by decide))) ?_
      refine y_next (pc' := 78) (xst_of (i := (.iload_n 1)) (len := 1) rfl rfl (x_ilo e1)) ?_
      refine y_next (pc' := 79) (xst_of (i := .imul) (len := 1) rfl rfl rfl) ?_
      refine y_next (pc' := 81) (xst_of (i := (.iload 5)) (len := 2) rfl rfl (x_ilo e5)) ?_
      refine y_next (pc' := 82) (xst_of (i := .iadd) (len := 1) rfl rfl rfl) ?_
      refine z_aI (t := (10, 0, 0)) (k := 13) (n := 4800) (i := ((200 * l1) + l5)) rfl rfl R (rc_10 R) H.1 ?_
      replace H := H.2
      refine z_is (i := (.istore 4)) (len := 2) (pc' := 85) (q := 4) rfl rfl rfl (by decide) (fun lv4 hlv => ?_)
      have e0 := xs1_A hlv e0 rfl rfl
      have e1 := xs1_A hlv e1 rfl rfl
      have e2 := xs1_A hlv e2 rfl rfl
      have e3 := xs1_B hlv e3 rfl rfl
      have e5 := xs1_A hlv e5 rfl rfl
      have e6 := xs1_A hlv e6 rfl rfl
      have e7 := xs1_A hlv e7 rfl rfl
      have e4 := xs1_N hlv
      clear hlv
      exact H _ _ R e0 e1 e2 e3 e4 e5 e6 e7
theorem l_163_85 {V : xV} {g : xG} {Y : xW} {l1 : Int32} {l2 : Int32} {l3 : Int32} {l4 : Int32} {l5 : Int32} {l6 : Int32} {l7 : Int32} {Q : xW → Prop} (H : ((l4 = l2) → L_127_0 V g Y l6 (fun x2 Y1 => ((x2 = 18) → vp_in ((8 * l1) + l7) 192 ∧ L_185_0 V g Y1 l3 (1 + (fA Y1 (10, 0, 0) 18 (Int32.toNatClampNeg ((8 * l1) + l7)))) (fun x4 Y3 => L_163_123 V g Y3 l1 l2 x4 l4 l5 l6 l7 Q)) ∧ (¬ (x2 = 18) → L_163_123 V g Y1 l1 l2 l3 l4 l5 l6 l7 Q))) ∧ (¬ (l4 = l2) → L_163_173 V g Y l1 l2 l3 l4 l5 l6 l7 Q)) : L_163_85 V g Y l1 l2 l3 l4 l5 l6 l7 Q := by
  intro h lv R e0 e1 e2 e3 e4 e5 e6 e7
  refine y_next (pc' := 87) (xst_of (i := (.iload 4)) (len := 2) rfl rfl (x_ilo e4)) ?_
  refine y_next (pc' := 88) (xst_of (i := (.iload_n 2)) (len := 1) rfl rfl (x_ilo e2)) ?_
  by_cases hc : l4 = l2
  · replace H := H.1 hc
    refine y_next (xst_of (i := (.if_icmp .eq 6)) (len := 3) rfl rfl (xt_icmp_eq (t := 94) rfl hc)) ?_
    refine y_next (pc' := 96) (xst_of (i := (.iload 6)) (len := 2) rfl rfl (x_ilo e6)) ?_
    refine z_cI (k := 127) (i := (.invokestatic 144)) (as := [.int l6]) (rest := []) rfl rfl rfl (H _ _ R rfl) (fun x2 h Y1 R H => ?_)
    refine y_next (pc' := 101) (xst_of (i := (.bipush 18)) (len := 2) rfl rfl (x_bip (v := 18) (by decide))) ?_
    by_cases hc : x2 = 18
    · replace H := H.1 hc
      refine y_next (pc' := 104) (xst_of (i := (.if_icmp .ne 22)) (len := 3) rfl rfl (xf_icmp_ne (t := 123) rfl (fun z => z hc))) ?_
      refine y_next (pc' := 105) (xst_of (i := (.iload_n 3)) (len := 1) rfl rfl (x_ilo e3)) ?_
      refine y_next (pc' := 106) (xst_of (i := (.iconst 1)) (len := 1) rfl rfl (x_ico (v := 1) (by decide))) ?_
      refine y_next (pc' := 107) (xst_of (i := (.aload_n 0)) (len := 1) rfl rfl (x_aloadV (xisV_r _) e0)) ?_
      refine z_gA (t := (10, 0, 0)) (k := 18) rfl rfl rfl R (rc_10 R) ?_
      refine y_next (pc' := 112) (xst_of (i := (.bipush 8)) (len := 2) rfl rfl (x_bip (v := 8) (by decide))) ?_
      refine y_next (pc' := 113) (xst_of (i := (.iload_n 1)) (len := 1) rfl rfl (x_ilo e1)) ?_
      refine y_next (pc' := 114) (xst_of (i := .imul) (len := 1) rfl rfl rfl) ?_
      refine y_next (pc' := 116) (xst_of (i := (.iload 7)) (len := 2) rfl rfl (x_ilo e7)) ?_
      refine y_next (pc' := 117) (xst_of (i := .iadd) (len := 1) rfl rfl rfl) ?_
      refine z_aI (t := (10, 0, 0)) (k := 18) (n := 192) (i := ((8 * l1) + l7)) rfl rfl R (rc_10 R) H.1 ?_
      replace H := H.2
      refine y_next (pc' := 119) (xst_of (i := .iadd) (len := 1) rfl rfl rfl) ?_
      refine z_cI (k := 185) (i := (.invokestatic 254)) (as := [.int l3, .int (1 + (fA Y1 (10, 0, 0) 18 (Int32.toNatClampNeg ((8 * l1) + l7))))]) (rest := []) rfl rfl rfl (H _ _ R rfl rfl) (fun x4 h Y3 R H => ?_)
      refine z_is (i := (.istore_n 3)) (len := 1) (pc' := 123) (q := 3) rfl rfl rfl (by decide) (fun lv1 hlv => ?_)
      have e0 := xs1_A hlv e0 rfl rfl
      have e1 := xs1_A hlv e1 rfl rfl
      have e2 := xs1_B hlv e2 rfl rfl
      have e4 := xs1_A hlv e4 rfl rfl
      have e5 := xs1_A hlv e5 rfl rfl
      have e6 := xs1_A hlv e6 rfl rfl
      have e7 := xs1_A hlv e7 rfl rfl
      have e3 := xs1_N hlv
      clear hlv
      exact H _ _ R e0 e1 e2 e3 e4 e5 e6 e7
    · replace H := H.2 hc
      refine y_next (xst_of (i := (.if_icmp .ne 22)) (len := 3) rfl rfl (xt_icmp_ne (t := 123) rfl hc)) ?_
      exact H _ _ R e0 e1 e2 e3 e4 e5 e6 e7
  · replace H := H.2 hc
    refine y_next (pc' := 91) (xst_of (i := (.if_icmp .eq 6)) (len := 3) rfl rfl (xf_icmp_eq (t := 94) rfl hc)) ?_
    refine y_next (pc' := 173) (xst_of (i := (.goto 82)) (len := 3) rfl rfl rfl) ?_
    exact H _ _ R e0 e1 e2 e3 e4 e5 e6 e7
theorem l_163_123 {V : xV} {g : xG} {Y : xW} {l1 : Int32} {l2 : Int32} {l3 : Int32} {l4 : Int32} {l5 : Int32} {l6 : Int32} {l7 : Int32} {Q : xW → Prop} (H : L_127_0 V g Y l6 (fun x2 Y1 => ((x2 = 19) → vp_in ((8 * l1) + l7) 192 ∧ vp_in ((8 * l1) + l7) 192 ∧ vp_in ((8 * (fA Y1 (10, 0, 0) 22 (Int32.toNatClampNeg ((8 * l1) + l7)))) + (fA Y1 (10, 0, 0) 23 (Int32.toNatClampNeg ((8 * l1) + l7)))) 192 ∧ L_185_0 V g Y1 l3 (1 + (fA Y1 (10, 0, 0) 18 (Int32.toNatClampNeg ((8 * (fA Y1 (10, 0, 0) 22 (Int32.toNatClampNeg ((8 * l1) + l7)))) + (fA Y1 (10, 0, 0) 23 (Int32.toNatClampNeg ((8 * l1) + l7))))))) (fun x4 Y3 => L_163_173 V g Y3 l1 l2 x4 l4 l5 l6 l7 Q)) ∧ (¬ (x2 = 19) → L_163_173 V g Y1 l1 l2 l3 l4 l5 l6 l7 Q))) : L_163_123 V g Y l1 l2 l3 l4 l5 l6 l7 Q := by
  intro h lv R e0 e1 e2 e3 e4 e5 e6 e7
  refine y_next (pc' := 125) (xst_of (i := (.iload 6)) (len := 2) rfl rfl (x_ilo e6)) ?_
  refine z_cI (k := 127) (i := (.invokestatic 144)) (as := [.int l6]) (rest := []) rfl rfl rfl (H _ _ R rfl) (fun x2 h Y1 R H => ?_)
  refine y_next (pc' := 130) (xst_of (i := (.bipush 19)) (len := 2) rfl rfl (x_bip (v := 19) (by decide))) ?_
  by_cases hc : x2 = 19
  · replace H := H.1 hc
    refine y_next (pc' := 133) (xst_of (i := (.if_icmp .ne 43)) (len := 3) rfl rfl (xf_icmp_ne (t := 173) rfl (fun z => z hc))) ?_
    refine y_next (pc' := 134) (xst_of (i := (.iload_n 3)) (len := 1) rfl rfl (x_ilo e3)) ?_
    refine y_next (pc' := 135) (xst_of (i := (.iconst 1)) (len := 1) rfl rfl (x_ico (v := 1) (by decide))) ?_
    refine y_next (pc' := 136) (xst_of (i := (.aload_n 0)) (len := 1) rfl rfl (x_aloadV (xisV_r _) e0)) ?_
    refine z_gA (t := (10, 0, 0)) (k := 18) rfl rfl rfl R (rc_10 R) ?_
    refine y_next (pc' := 141) (xst_of (i := (.bipush 8)) (len := 2) rfl rfl (x_bip (v := 8) (by decide))) ?_
    refine y_next (pc' := 142) (xst_of (i := (.aload_n 0)) (len := 1) rfl rfl (x_aloadV (xisV_r _) e0)) ?_
    refine z_gA (t := (10, 0, 0)) (k := 22) rfl rfl rfl R (rc_10 R) ?_
    refine y_next (pc' := 147) (xst_of (i := (.bipush 8)) (len := 2) rfl rfl (x_bip (v := 8) (by decide))) ?_
    refine y_next (pc' := 148) (xst_of (i := (.iload_n 1)) (len := 1) rfl rfl (x_ilo e1)) ?_
    refine y_next (pc' := 149) (xst_of (i := .imul) (len := 1) rfl rfl rfl) ?_
    refine y_next (pc' := 151) (xst_of (i := (.iload 7)) (len := 2) rfl rfl (x_ilo e7)) ?_
    refine y_next (pc' := 152) (xst_of (i := .iadd) (len := 1) rfl rfl rfl) ?_
    refine z_aI (t := (10, 0, 0)) (k := 22) (n := 192) (i := ((8 * l1) + l7)) rfl rfl R (rc_10 R) H.1 ?_
    replace H := H.2
    refine y_next (pc' := 154) (xst_of (i := .imul) (len := 1) rfl rfl rfl) ?_
    refine y_next (pc' := 155) (xst_of (i := (.aload_n 0)) (len := 1) rfl rfl (x_aloadV (xisV_r _) e0)) ?_
    refine z_gA (t := (10, 0, 0)) (k := 23) rfl rfl rfl R (rc_10 R) ?_
    refine y_next (pc' := 160) (xst_of (i := (.bipush 8)) (len := 2) rfl rfl (x_bip (v := 8) (by decide))) ?_
    refine y_next (pc' := 161) (xst_of (i := (.iload_n 1)) (len := 1) rfl rfl (x_ilo e1)) ?_
    refine y_next (pc' := 162) (xst_of (i := .imul) (len := 1) rfl rfl rfl) ?_
    refine y_next (pc' := 164) (xst_of (i := (.iload 7)) (len := 2) rfl rfl (x_ilo e7)) ?_
    refine y_next (pc' := 165) (xst_of (i := .iadd) (len := 1) rfl rfl rfl) ?_
    refine z_aI (t := (10, 0, 0)) (k := 23) (n := 192) (i := ((8 * l1) + l7)) rfl rfl R (rc_10 R) H.1 ?_
    replace H := H.2
    refine y_next (pc' := 167) (xst_of (i := .iadd) (len := 1) rfl rfl rfl) ?_
    refine z_aI (t := (10, 0, 0)) (k := 18) (n := 192) (i := ((8 * (fA Y1 (10, 0, 0) 22 (Int32.toNatClampNeg ((8 * l1) + l7)))) + (fA Y1 (10, 0, 0) 23 (Int32.toNatClampNeg ((8 * l1) + l7))))) rfl rfl R (rc_10 R) H.1 ?_
    replace H := H.2
    refine y_next (pc' := 169) (xst_of (i := .iadd) (len := 1) rfl rfl rfl) ?_
    refine z_cI (k := 185) (i := (.invokestatic 254)) (as := [.int l3, .int (1 + (fA Y1 (10, 0, 0) 18 (Int32.toNatClampNeg ((8 * (fA Y1 (10, 0, 0) 22 (Int32.toNatClampNeg ((8 * l1) + l7)))) + (fA Y1 (10, 0, 0) 23 (Int32.toNatClampNeg ((8 * l1) + l7)))))))]) (rest := []) rfl rfl rfl (H _ _ R rfl rfl) (fun x4 h Y3 R H => ?_)
    refine z_is (i := (.istore_n 3)) (len := 1) (pc' := 173) (q := 3) rfl rfl rfl (by decide) (fun lv1 hlv => ?_)
    have e0 := xs1_A hlv e0 rfl rfl
    have e1 := xs1_A hlv e1 rfl rfl
    have e2 := xs1_B hlv e2 rfl rfl
    have e4 := xs1_A hlv e4 rfl rfl
    have e5 := xs1_A hlv e5 rfl rfl
    have e6 := xs1_A hlv e6 rfl rfl
    have e7 := xs1_A hlv e7 rfl rfl
    have e3 := xs1_N hlv
    clear hlv
    exact H _ _ R e0 e1 e2 e3 e4 e5 e6 e7
  · replace H := H.2 hc
    refine y_next (xst_of (i := (.if_icmp .ne 43)) (len := 3) rfl rfl (xt_icmp_ne (t := 173) rfl hc)) ?_
    exact H _ _ R e0 e1 e2 e3 e4 e5 e6 e7
theorem l_163_173 {V : xV} {g : xG} {Y : xW} {l1 : Int32} {l2 : Int32} {l3 : Int32} {l4 : Int32} {l5 : Int32} {l6 : Int32} {l7 : Int32} {Q : xW → Prop} (H : L_163_21 V g Y l1 l2 l3 l4 (l5 + 1) Q) : L_163_173 V g Y l1 l2 l3 l4 l5 l6 l7 Q := by
  intro h lv R e0 e1 e2 e3 e4 e5 e6 e7
  refine z_in (q := 5) (n := 1) (v := 1) rfl e5 (by decide) (by decide) (fun lv1 hlv => ?_)
  have e0 := xs1_A hlv e0 rfl rfl
  have e1 := xs1_A hlv e1 rfl rfl
  have e2 := xs1_A hlv e2 rfl rfl
  have e3 := xs1_A hlv e3 rfl rfl
  have e4 := xs1_B hlv e4 rfl rfl
  have e6 := xs1_A hlv e6 rfl rfl
  have e7 := xs1_A hlv e7 rfl rfl
  have e5 := xs1_N hlv
  clear hlv
  refine y_next (pc' := 21) (xst_of (i := (.goto (-155))) (len := 3) rfl rfl rfl) ?_
  exact H _ _ R e0 e1 e2 e3 e4 e5
