theorem l_15_0 {V : xV} {g : xG} {Y : xW}  {Q : Int32 → xW → Prop} (H : L_13_0 V g Y  (fun x2 Y1 => ((x2 = 0) → L_77_0 V g Y1 (23, 0, 0) (fI Y1 (1, 0, 0) 6) (fun x4 Y3 => L_184_0 V g Y3 x4 (fun x6 Y5 => L_78_0 V g Y5 (23, 0, 0) (fI Y5 (1, 0, 0) 6) (fun x8 Y7 => L_184_0 V g Y7 x8 (fun x10 Y9 => L_186_0 V g Y9 x6 x10 (fun x12 Y11 => L_77_0 V g Y11 (23, 0, 0) (fI Y11 (1, 0, 0) 5) (fun x14 Y13 => ((0 ≤ x14) → L_15_73 V g Y13 x2 (x12 - 1) (23, 0, 0) (fI Y11 (1, 0, 0) 4) 0 Q) ∧ (¬ (0 ≤ x14) → L_15_73 V g Y13 x2 (x12 - 1) (23, 0, 0) (fI Y11 (1, 0, 0) 4) (-(x12 - 1)) Q)))))))) ∧ (¬ (x2 = 0) → L_15_97 V g Y1 x2 Q))) : L_15_0 V g Y  Q := by
  intro h lv R e0
  refine y_next (pc' := 1) (xst_of (i := (.aload_n 0)) (len := 1) rfl rfl (x_aloadV (xisV_r _) e0)) ?_
  refine z_cI (k := 13) (i := (.invokevirtual 198)) (as := [.ref (g.2 (1, 0, 0) 0)]) (rest := []) rfl rfl (x_callv rfl rfl (rc_ob R (rc_1 R) rfl) rfl rfl) (H _ _ R rfl) (fun x2 h Y1 R H => ?_)
  refine z_is (i := (.istore_n 1)) (len := 1) (pc' := 5) (q := 1) rfl rfl rfl (by decide) (fun lv1 hlv => ?_)
  have e0 := xs1_B hlv e0 rfl rfl
  have e1 := xs1_N hlv
  clear hlv
  refine y_next (pc' := 6) (xst_of (i := (.iload_n 1)) (len := 1) rfl rfl (x_ilo e1)) ?_
  by_cases hc : x2 = 0
  · replace H := H.1 hc
    refine y_next (pc' := 9) (xst_of (i := (.ifCond .ne 91)) (len := 3) rfl rfl (xf_if_ne (t := 97) rfl (fun z => z hc))) ?_
    refine y_next (pc' := 10) (xst_of (i := (.aload_n 0)) (len := 1) rfl rfl (x_aloadV (xisV_r _) e0)) ?_
    refine z_gO (t := (1, 0, 0)) (k := 0) rfl rfl rfl R (rc_1 R) ?_
    refine y_next (pc' := 14) (xst_of (i := (.aload_n 0)) (len := 1) rfl rfl (x_aloadV (xisV_r _) e0)) ?_
    refine z_gI (t := (1, 0, 0)) (k := 6) rfl rfl rfl R (rc_1 R) ?_
    refine z_cL (k := 77) (i := (.invokevirtual 162)) (as := [.ref (g.2 (23, 0, 0) 0), .int (fI Y1 (1, 0, 0) 6)]) (rest := []) rfl rfl (x_callv rfl rfl (rc_ob R (rc_sb R (rc_1 R) (k := 0) rfl rfl) rfl) rfl rfl) (H _ _ R rfl rfl (rc_sb R (rc_1 R) (k := 0) rfl rfl)) (fun x4 h Y3 R H => ?_)
    refine z_cL (k := 184) (i := (.invokestatic 201)) (as := [.long x4]) (rest := []) rfl rfl rfl (H _ _ R rfl) (fun x6 h Y5 R H => ?_)
    refine y_next (pc' := 24) (xst_of (i := (.aload_n 0)) (len := 1) rfl rfl (x_aloadV (xisV_r _) e0)) ?_
    refine z_gO (t := (1, 0, 0)) (k := 0) rfl rfl rfl R (rc_1 R) ?_
    refine y_next (pc' := 28) (xst_of (i := (.aload_n 0)) (len := 1) rfl rfl (x_aloadV (xisV_r _) e0)) ?_
    refine z_gI (t := (1, 0, 0)) (k := 6) rfl rfl rfl R (rc_1 R) ?_
    refine z_cL (k := 78) (i := (.invokevirtual 166)) (as := [.ref (g.2 (23, 0, 0) 0), .int (fI Y5 (1, 0, 0) 6)]) (rest := [.long x6]) rfl rfl (x_callv rfl rfl (rc_ob R (rc_sb R (rc_1 R) (k := 0) rfl rfl) rfl) rfl rfl) (H _ _ R rfl rfl (rc_sb R (rc_1 R) (k := 0) rfl rfl)) (fun x8 h Y7 R H => ?_)
    refine z_cL (k := 184) (i := (.invokestatic 201)) (as := [.long x8]) (rest := [.long x6]) rfl rfl rfl (H _ _ R rfl) (fun x10 h Y9 R H => ?_)
    refine z_cL (k := 186) (i := (.invokestatic 207)) (as := [.long x6, .long x10]) (rest := []) rfl rfl rfl (H _ _ R rfl rfl) (fun x12 h Y11 R H => ?_)
    refine y_next (pc' := 41) (xst_of (i := (.lconst 1)) (len := 1) rfl rfl (x_lco (v := 1) (by decide))) ?_
    refine y_next (pc' := 42) (xst_of (i := .lsub) (len := 1) rfl rfl rfl) ?_
    refine z_ls (i := (.lstore_n 2)) (len := 1) (pc' := 43) (q := 2) rfl rfl rfl (by decide) (fun lv2 hlv => ?_)
    have e0 := xs2_A hlv e0 rfl rfl
    have e1 := xs2_B hlv e1 rfl rfl
    have e2 := xs2_N hlv
    clear hlv
    refine y_next (pc' := 44) (xst_of (i := (.aload_n 0)) (len := 1) rfl rfl (x_aloadV (xisV_r _) e0)) ?_
    refine z_gO (t := (1, 0, 0)) (k := 0) rfl rfl rfl R (rc_1 R) ?_
    refine y_next (pc' := 48) (xst_of (i := (.aload_n 0)) (len := 1) rfl rfl (x_aloadV (xisV_r _) e0)) ?_
    refine z_gI (t := (1, 0, 0)) (k := 4) rfl rfl rfl R (rc_1 R) ?_
    refine y_next (pc' := 52) (xst_of (i := (.aload_n 0)) (len := 1) rfl rfl (x_aloadV (xisV_r _) e0)) ?_
    refine z_gO (t := (1, 0, 0)) (k := 0) rfl rfl rfl R (rc_1 R) ?_
    refine y_next (pc' := 56) (xst_of (i := (.aload_n 0)) (len := 1) rfl rfl (x_aloadV (xisV_r _) e0)) ?_
    refine z_gI (t := (1, 0, 0)) (k := 5) rfl rfl rfl R (rc_1 R) ?_
    refine z_cL (k := 77) (i := (.invokevirtual 162)) (as := [.ref (g.2 (23, 0, 0) 0), .int (fI Y11 (1, 0, 0) 5)]) (rest := [.int (fI Y11 (1, 0, 0) 4), .ref (g.2 (23, 0, 0) 0)]) rfl rfl (x_callv rfl rfl (rc_ob R (rc_sb R (rc_1 R) (k := 0) rfl rfl) rfl) rfl rfl) (H _ _ R rfl rfl (rc_sb R (rc_1 R) (k := 0) rfl rfl)) (fun x14 h Y13 R H => ?_)
    refine y_next (pc' := 63) (xst_of (i := (.lconst 0)) (len := 1) rfl rfl (x_lco (v := 0) (by decide))) ?_
    refine y_next (pc' := 64) (xst_of (i := .lcmp) (len := 1) rfl rfl rfl) ?_
    by_cases hc : 0 ≤ x14
    · replace H := H.1 hc
      refine y_next (xst_of (i := (.ifCond .ge 8)) (len := 3) rfl rfl (xt_if_ge (t := 72) rfl ((lg_cmp_ge x14 0).mpr hc))) ?_
      refine y_next (pc' := 73) (xst_of (i := (.lconst 0)) (len := 1) rfl rfl (x_lco (v := 0) (by decide))) ?_
      exact H _ _ R e0 e1 e2 (rc_sb R (rc_1 R) (k := 0) rfl rfl)
    · replace H := H.2 hc
      refine y_next (pc' := 67) (xst_of (i := (.ifCond .ge 8)) (len := 3) rfl rfl (xf_if_ge (t := 72) rfl (fun z => hc ((lg_cmp_ge x14 0).mp z)))) ?_
      refine y_next (pc' := 68) (xst_of (i := (.lload_n 2)) (len := 1) rfl rfl (x_llo e2)) ?_
      refine y_next (pc' := 69) (xst_of (i := .lneg) (len := 1) rfl rfl rfl) ?_
      refine y_next (pc' := 73) (xst_of (i := (.goto 4)) (len := 3) rfl rfl rfl) ?_
      exact H _ _ R e0 e1 e2 (rc_sb R (rc_1 R) (k := 0) rfl rfl)
  · replace H := H.2 hc
    refine y_next (xst_of (i := (.ifCond .ne 91)) (len := 3) rfl rfl (xt_if_ne (t := 97) rfl hc)) ?_
    exact H _ _ R e0 e1
theorem l_15_73 {V : xV} {g : xG} {Y : xW} {l1 : Int32} {l2 : Int64} {s0 : xT} {s1 : Int32} {s2 : Int64} {Q : Int32 → xW → Prop} (H : L_78_0 V g Y (23, 0, 0) (fI Y (1, 0, 0) 5) (fun x2 Y1 => ((x2 ≤ 0) → L_15_94 V g Y1 l1 l2 s0 s1 s2 0 Q) ∧ (¬ (x2 ≤ 0) → L_15_94 V g Y1 l1 l2 s0 s1 s2 l2 Q))) : L_15_73 V g Y l1 l2 s0 s1 s2 Q := by
  intro h lv R e0 e1 e2 ok_s0
  refine y_next (pc' := 74) (xst_of (i := (.aload_n 0)) (len := 1) rfl rfl (x_aloadV (xisV_r _) e0)) ?_
  refine z_gO (t := (1, 0, 0)) (k := 0) rfl rfl rfl R (rc_1 R) ?_
  refine y_next (pc' := 78) (xst_of (i := (.aload_n 0)) (len := 1) rfl rfl (x_aloadV (xisV_r _) e0)) ?_
  refine z_gI (t := (1, 0, 0)) (k := 5) rfl rfl rfl R (rc_1 R) ?_
  refine z_cL (k := 78) (i := (.invokevirtual 166)) (as := [.ref (g.2 (23, 0, 0) 0), .int (fI Y (1, 0, 0) 5)]) (rest := [.long s2, .int s1, .ref (g.2 s0 0)]) rfl rfl (x_callv rfl rfl (rc_ob R (rc_sb R (rc_1 R) (k := 0) rfl rfl) rfl) rfl rfl) (H _ _ R rfl rfl (rc_sb R (rc_1 R) (k := 0) rfl rfl)) (fun x2 h Y1 R H => ?_)
  refine y_next (pc' := 85) (xst_of (i := (.lconst 0)) (len := 1) rfl rfl (x_lco (v := 0) (by decide))) ?_
  refine y_next (pc' := 86) (xst_of (i := .lcmp) (len := 1) rfl rfl rfl) ?_
  by_cases hc : x2 ≤ 0
  · replace H := H.1 hc
    refine y_next (xst_of (i := (.ifCond .le 7)) (len := 3) rfl rfl (xt_if_le (t := 93) rfl ((lg_cmp_le x2 0).mpr hc))) ?_
    refine y_next (pc' := 94) (xst_of (i := (.lconst 0)) (len := 1) rfl rfl (x_lco (v := 0) (by decide))) ?_
    exact H _ _ R e0 e1 e2 ok_s0
  · replace H := H.2 hc
    refine y_next (pc' := 89) (xst_of (i := (.ifCond .le 7)) (len := 3) rfl rfl (xf_if_le (t := 93) rfl (fun z => hc ((lg_cmp_le x2 0).mp z)))) ?_
    refine y_next (pc' := 90) (xst_of (i := (.lload_n 2)) (len := 1) rfl rfl (x_llo e2)) ?_
    refine y_next (pc' := 94) (xst_of (i := (.goto 4)) (len := 3) rfl rfl rfl) ?_
    exact H _ _ R e0 e1 e2 ok_s0
theorem l_15_94 {V : xV} {g : xG} {Y : xW} {l1 : Int32} {l2 : Int64} {s0 : xT} {s1 : Int32} {s2 : Int64} {s3 : Int64} {Q : Int32 → xW → Prop} (H : L_81_0 V g Y s0 s1 s2 s3 (fun Y1 => L_15_97 V g Y1 l1 Q)) : L_15_94 V g Y l1 l2 s0 s1 s2 s3 Q := by
  intro h lv R e0 e1 e2 ok_s0
  refine z_cN (k := 81) (i := (.invokevirtual 183)) (as := [.ref (g.2 s0 0), .int s1, .long s2, .long s3]) (rest := []) rfl rfl (x_callv rfl rfl (rc_ob R ok_s0 rfl) rfl rfl) (H _ _ R rfl rfl rfl rfl ok_s0) (fun h Y1 R H => ?_)
  exact H _ _ R e0 e1
theorem l_15_97 {V : xV} {g : xG} {Y : xW} {l1 : Int32} {Q : Int32 → xW → Prop} (H : Q l1 Y) : L_15_97 V g Y l1 Q := by
  intro h lv R e0 e1
  refine y_next (pc' := 98) (xst_of (i := (.iload_n 1)) (len := 1) rfl rfl (x_ilo e1)) ?_
  exact y_ret (xst_of (i := .ireturn) (len := 1) rfl rfl rfl) ⟨_, _, rfl, R, H⟩
theorem l_16_0 {V : xV} {g : xG} {Y : xW} {l1 : Int64} {l3 : Int64} {l5 : Int64} {l7 : Int64} {Q : xW → Prop} (H : L_188_0 V g Y l1 l3 (fun x2 Y1 => L_188_0 V g Y1 l5 l7 (fun x4 Y3 => L_188_0 V g Y3 x2 x4 (fun x6 Y5 => L_186_0 V g Y5 l1 l3 (fun x8 Y7 => L_186_0 V g Y7 l5 l7 (fun x10 Y9 => L_186_0 V g Y9 x8 x10 (fun x12 Y11 => L_81_0 V g Y11 (23, 0, 0) (fI Y (1, 0, 0) 4) x6 x12 (fun Y13 => Q Y13)))))))) : L_16_0 V g Y l1 l3 l5 l7 Q := by
  intro h lv R e0 e1 e3 e5 e7
  refine y_next (pc' := 1) (xst_of (i := (.aload_n 0)) (len := 1) rfl rfl (x_aloadV (xisV_r _) e0)) ?_
  refine z_gO (t := (1, 0, 0)) (k := 0) rfl rfl rfl R (rc_1 R) ?_
  refine y_next (pc' := 5) (xst_of (i := (.aload_n 0)) (len := 1) rfl rfl (x_aloadV (xisV_r _) e0)) ?_
  refine z_gI (t := (1, 0, 0)) (k := 4) rfl rfl rfl R (rc_1 R) ?_
  refine y_next (pc' := 9) (xst_of (i := (.lload_n 1)) (len := 1) rfl rfl (x_llo e1)) ?_
  refine y_next (pc' := 10) (xst_of (i := (.lload_n 3)) (len := 1) rfl rfl (x_llo e3)) ?_
  refine z_cL (k := 188) (i := (.invokestatic 211)) (as := [.long l1, .long l3]) (rest := [.int (fI Y (1, 0, 0) 4), .ref (g.2 (23, 0, 0) 0)]) rfl rfl rfl (H _ _ R rfl rfl) (fun x2 h Y1 R H => ?_)
  refine y_next (pc' := 15) (xst_of (i := (.lload 5)) (len := 2) rfl rfl (x_llo e5)) ?_
  refine y_next (pc' := 17) (xst_of (i := (.lload 7)) (len := 2) rfl rfl (x_llo e7)) ?_
  refine z_cL (k := 188) (i := (.invokestatic 211)) (as := [.long l5, .long l7]) (rest := [.long x2, .int (fI Y (1, 0, 0) 4), .ref (g.2 (23, 0, 0) 0)]) rfl rfl rfl (H _ _ R rfl rfl) (fun x4 h Y3 R H => ?_)
  refine z_cL (k := 188) (i := (.invokestatic 211)) (as := [.long x2, .long x4]) (rest := [.int (fI Y (1, 0, 0) 4), .ref (g.2 (23, 0, 0) 0)]) rfl rfl rfl (H _ _ R rfl rfl) (fun x6 h Y5 R H => ?_)
  refine y_next (pc' := 24) (xst_of (i := (.lload_n 1)) (len := 1) rfl rfl (x_llo e1)) ?_
  refine y_next (pc' := 25) (xst_of (i := (.lload_n 3)) (len := 1) rfl rfl (x_llo e3)) ?_
  refine z_cL (k := 186) (i := (.invokestatic 207)) (as := [.long l1, .long l3]) (rest := [.long x6, .int (fI Y (1, 0, 0) 4), .ref (g.2 (23, 0, 0) 0)]) rfl rfl rfl (H _ _ R rfl rfl) (fun x8 h Y7 R H => ?_)
  refine y_next (pc' := 30) (xst_of (i := (.lload 5)) (len := 2) rfl rfl (x_llo e5)) ?_
  refine y_next (pc' := 32) (xst_of (i := (.lload 7)) (len := 2) rfl rfl (x_llo e7)) ?_
  refine z_cL (k := 186) (i := (.invokestatic 207)) (as := [.long l5, .long l7]) (rest := [.long x8, .long x6, .int (fI Y (1, 0, 0) 4), .ref (g.2 (23, 0, 0) 0)]) rfl rfl rfl (H _ _ R rfl rfl) (fun x10 h Y9 R H => ?_)
  refine z_cL (k := 186) (i := (.invokestatic 207)) (as := [.long x8, .long x10]) (rest := [.long x6, .int (fI Y (1, 0, 0) 4), .ref (g.2 (23, 0, 0) 0)]) rfl rfl rfl (H _ _ R rfl rfl) (fun x12 h Y11 R H => ?_)
  refine z_cN (k := 81) (i := (.invokevirtual 183)) (as := [.ref (g.2 (23, 0, 0) 0), .int (fI Y (1, 0, 0) 4), .long x6, .long x12]) (rest := []) rfl rfl (x_callv rfl rfl (rc_ob R (rc_sb R (rc_1 R) (k := 0) rfl rfl) rfl) rfl rfl) (H _ _ R rfl rfl rfl rfl (rc_sb R (rc_1 R) (k := 0) rfl rfl)) (fun h Y13 R H => ?_)
  exact y_ret (xst_of (i := .return_) (len := 1) rfl rfl rfl) ⟨_, rfl, R, H⟩
theorem l_17_0 {V : xV} {g : xG} {Y : xW} {l1 : Int32} {Q : Int32 → xW → Prop} (H : L_18_0 V g Y l1 (fun x2 Y1 => ((x2 = 0) → L_80_0 V g Y1 (23, 0, 0) (fI Y1 (1, 0, 0) 4) 1 (-2147483648) 2147483647 (fun Y3 => L_17_26 V g Y3 l1 x2 Q)) ∧ (¬ (x2 = 0) → L_17_26 V g Y1 l1 x2 Q))) : L_17_0 V g Y l1 Q := by
  intro h lv R e0 e1
  refine y_next (pc' := 1) (xst_of (i := (.aload_n 0)) (len := 1) rfl rfl (x_aloadV (xisV_r _) e0)) ?_
  refine y_next (pc' := 2) (xst_of (i := (.iload_n 1)) (len := 1) rfl rfl (x_ilo e1)) ?_
  refine z_cI (k := 18) (i := (.invokevirtual 180)) (as := [.ref (g.2 (1, 0, 0) 0), .int l1]) (rest := []) rfl rfl (x_callv rfl rfl (rc_ob R (rc_1 R) rfl) rfl rfl) (H _ _ R rfl rfl) (fun x2 h Y1 R H => ?_)
  refine z_is (i := (.istore_n 2)) (len := 1) (pc' := 6) (q := 2) rfl rfl rfl (by decide) (fun lv1 hlv => ?_)
  have e0 := xs1_A hlv e0 rfl rfl
  have e1 := xs1_B hlv e1 rfl rfl
  have e2 := xs1_N hlv
  clear hlv
  refine y_next (pc' := 7) (xst_of (i := (.iload_n 2)) (len := 1) rfl rfl (x_ilo e2)) ?_
  by_cases hc : x2 = 0
  · replace H := H.1 hc
    refine y_next (pc' := 10) (xst_of (i := (.ifCond .ne 19)) (len := 3) rfl rfl (xf_if_ne (t := 26) rfl (fun z => z hc))) ?_
    refine y_next (pc' := 11) (xst_of (i := (.aload_n 0)) (len := 1) rfl rfl (x_aloadV (xisV_r _) e0)) ?_
    refine z_gO (t := (1, 0, 0)) (k := 0) rfl rfl rfl R (rc_1 R) ?_
    refine y_next (pc' := 15) (xst_of (i := (.aload_n 0)) (len := 1) rfl rfl (x_aloadV (xisV_r _) e0)) ?_
    refine z_gI (t := (1, 0, 0)) (k := 4) rfl rfl rfl R (rc_1 R) ?_
    refine y_next (pc' := 19) (xst_of (i := (.iconst 1)) (len := 1) rfl rfl (x_ico (v := 1) (by decide))) ?_
    refine y_next (pc' := 21) (xst_of (i := (.ldc 216)) (len := 2) rfl rfl rfl) ?_
    refine y_next (pc' := 23) (xst_of (i := (.ldc 217)) (len := 2) rfl rfl rfl) ?_
    refine z_cN (k := 80) (i := (.invokevirtual 138)) (as := [.ref (g.2 (23, 0, 0) 0), .int (fI Y1 (1, 0, 0) 4), .int 1, .int (-2147483648), .int 2147483647]) (rest := []) rfl rfl (x_callv rfl rfl (rc_ob R (rc_sb R (rc_1 R) (k := 0) rfl rfl) rfl) rfl rfl) (H _ _ R rfl rfl rfl rfl rfl (rc_sb R (rc_1 R) (k := 0) rfl rfl)) (fun h Y3 R H => ?_)
    exact H _ _ R e0 e1 e2
  · replace H := H.2 hc
    refine y_next (xst_of (i := (.ifCond .ne 19)) (len := 3) rfl rfl (xt_if_ne (t := 26) rfl hc)) ?_
    exact H _ _ R e0 e1 e2
theorem l_17_26 {V : xV} {g : xG} {Y : xW} {l1 : Int32} {l2 : Int32} {Q : Int32 → xW → Prop} (H : Q l2 Y) : L_17_26 V g Y l1 l2 Q := by
  intro h lv R e0 e1 e2
  refine y_next (pc' := 27) (xst_of (i := (.iload_n 2)) (len := 1) rfl rfl (x_ilo e2)) ?_
  exact y_ret (xst_of (i := .ireturn) (len := 1) rfl rfl rfl) ⟨_, _, rfl, R, H⟩
theorem l_18_0 {V : xV} {g : xG} {Y : xW} {l1 : Int32} {Q : Int32 → xW → Prop} (H : L_76_0 V g Y (23, 0, 0) (fI Y (1, 0, 0) 5) (fun x2 Y1 => ((x2 = 2) → L_77_0 V g Y1 (23, 0, 0) (fI Y1 (1, 0, 0) 5) (fun x4 Y3 => (((x4 + (Int32.toInt64 (fI Y3 (1, 0, 0) 8))) < 0) → L_18_62 V g Y3 l1 Q) ∧ (¬ ((x4 + (Int32.toInt64 (fI Y3 (1, 0, 0) 8))) < 0) → L_78_0 V g Y3 (23, 0, 0) (fI Y3 (1, 0, 0) 5) (fun x6 Y5 => (((x6 + (Int32.toInt64 (fI Y5 (1, 0, 0) 8))) < (Int32.toInt64 l1)) → L_18_67 V g Y5 l1 0 Q) ∧ (¬ ((x6 + (Int32.toInt64 (fI Y5 (1, 0, 0) 8))) < (Int32.toInt64 l1)) → L_18_62 V g Y5 l1 Q))))) ∧ (¬ (x2 = 2) → Q 2 Y1))) : L_18_0 V g Y l1 Q := by
  intro h lv R e0 e1
  refine y_next (pc' := 1) (xst_of (i := (.aload_n 0)) (len := 1) rfl rfl (x_aloadV (xisV_r _) e0)) ?_
  refine z_gO (t := (1, 0, 0)) (k := 0) rfl rfl rfl R (rc_1 R) ?_
  refine y_next (pc' := 5) (xst_of (i := (.aload_n 0)) (len := 1) rfl rfl (x_aloadV (xisV_r _) e0)) ?_
  refine z_gI (t := (1, 0, 0)) (k := 5) rfl rfl rfl R (rc_1 R) ?_
  refine z_cI (k := 76) (i := (.invokevirtual 187)) (as := [.ref (g.2 (23, 0, 0) 0), .int (fI Y (1, 0, 0) 5)]) (rest := []) rfl rfl (x_callv rfl rfl (rc_ob R (rc_sb R (rc_1 R) (k := 0) rfl rfl) rfl) rfl rfl) (H _ _ R rfl rfl (rc_sb R (rc_1 R) (k := 0) rfl rfl)) (fun x2 h Y1 R H => ?_)
  refine y_next (pc' := 12) (xst_of (i := (.iconst 2)) (len := 1) rfl rfl (x_ico (v := 2) (by decide))) ?_
  by_cases hc : x2 = 2
  · replace H := H.1 hc
    refine y_next (xst_of (i := (.if_icmp .eq 5)) (len := 3) rfl rfl (xt_icmp_eq (t := 17) rfl hc)) ?_
    refine y_next (pc' := 18) (xst_of (i := (.aload_n 0)) (len := 1) rfl rfl (x_aloadV (xisV_r _) e0)) ?_
    refine z_gO (t := (1, 0, 0)) (k := 0) rfl rfl rfl R (rc_1 R) ?_
    refine y_next (pc' := 22) (xst_of (i := (.aload_n 0)) (len := 1) rfl rfl (x_aloadV (xisV_r _) e0)) ?_
    refine z_gI (t := (1, 0, 0)) (k := 5) rfl rfl rfl R (rc_1 R) ?_
    refine z_cL (k := 77) (i := (.invokevirtual 162)) (as := [.ref (g.2 (23, 0, 0) 0), .int (fI Y1 (1, 0, 0) 5)]) (rest := []) rfl rfl (x_callv rfl rfl (rc_ob R (rc_sb R (rc_1 R) (k := 0) rfl rfl) rfl) rfl rfl) (H _ _ R rfl rfl (rc_sb R (rc_1 R) (k := 0) rfl rfl)) (fun x4 h Y3 R H => ?_)
    refine y_next (pc' := 29) (xst_of (i := (.aload_n 0)) (len := 1) rfl rfl (x_aloadV (xisV_r _) e0)) ?_
    refine z_gI (t := (1, 0, 0)) (k := 8) rfl rfl rfl R (rc_1 R) ?_
    refine y_next (pc' := 33) (xst_of (i := .i2l) (len := 1) rfl rfl rfl) ?_
    refine y_next (pc' := 34) (xst_of (i := .ladd) (len := 1) rfl rfl rfl) ?_
    refine y_next (pc' := 35) (xst_of (i := (.lconst 0)) (len := 1) rfl rfl (x_lco (v := 0) (by decide))) ?_
    refine y_next (pc' := 36) (xst_of (i := .lcmp) (len := 1) rfl rfl rfl) ?_
    by_cases hc : (x4 + (Int32.toInt64 (fI Y3 (1, 0, 0) 8))) < 0
    · replace H := H.1 hc
      refine y_next (xst_of (i := (.ifCond .lt 26)) (len := 3) rfl rfl (xt_if_lt (t := 62) rfl ((lg_cmp_lt (x4 + (Int32.toInt64 (fI Y3 (1, 0, 0) 8))) 0).mpr hc))) ?_
      exact H _ _ R e0 e1
    · replace H := H.2 hc
      refine y_next (pc' := 39) (xst_of (i := (.ifCond .lt 26)) (len := 3) rfl rfl (xf_if_lt (t := 62) rfl (fun z => hc ((lg_cmp_lt (x4 + (Int32.toInt64 (fI Y3 (1, 0, 0) 8))) 0).mp z)))) ?_
      refine y_next (pc' := 40) (xst_of (i := (.aload_n 0)) (len := 1) rfl rfl (x_aloadV (xisV_r _) e0)) ?_
      refine z_gO (t := (1, 0, 0)) (k := 0) rfl rfl rfl R (rc_1 R) ?_
      refine y_next (pc' := 44) (xst_of (i := (.aload_n 0)) (len := 1) rfl rfl (x_aloadV (xisV_r _) e0)) ?_
      refine z_gI (t := (1, 0, 0)) (k := 5) rfl rfl rfl R (rc_1 R) ?_
      refine z_cL (k := 78) (i := (.invokevirtual 166)) (as := [.ref (g.2 (23, 0, 0) 0), .int (fI Y3 (1, 0, 0) 5)]) (rest := []) rfl rfl (x_callv rfl rfl (rc_ob R (rc_sb R (rc_1 R) (k := 0) rfl rfl) rfl) rfl rfl) (H _ _ R rfl rfl (rc_sb R (rc_1 R) (k := 0) rfl rfl)) (fun x6 h Y5 R H => ?_)
      refine y_next (pc' := 51) (xst_of (i := (.aload_n 0)) (len := 1) rfl rfl (x_aloadV (xisV_r _) e0)) ?_
      refine z_gI (t := (1, 0, 0)) (k := 8) rfl rfl rfl R (rc_1 R) ?_
      refine y_next (pc' := 55) (xst_of (i := .i2l) (len := 1) rfl rfl rfl) ?_
      refine y_next (pc' := 56) (xst_of (i := .ladd) (len := 1) rfl rfl rfl) ?_
      refine y_next (pc' := 57) (xst_of (i := (.iload_n 1)) (len := 1) rfl rfl (x_ilo e1)) ?_
      refine y_next (pc' := 58) (xst_of (i := .i2l) (len := 1) rfl rfl rfl) ?_
      refine y_next (pc' := 59) (xst_of (i := .lcmp) (len := 1) rfl rfl rfl) ?_
      by_cases hc : (x6 + (Int32.toInt64 (fI Y5 (1, 0, 0) 8))) < (Int32.toInt64 l1)
      · replace H := H.1 hc
        refine y_next (xst_of (i := (.ifCond .lt 7)) (len := 3) rfl rfl (xt_if_lt (t := 66) rfl ((lg_cmp_lt (x6 + (Int32.toInt64 (fI Y5 (1, 0, 0) 8))) (Int32.toInt64 l1)).mpr hc))) ?_
        refine y_next (pc' := 67) (xst_of (i := (.iconst 0)) (len := 1) rfl rfl (x_ico (v := 0) (by decide))) ?_
        exact H _ _ R e0 e1
      · replace H := H.2 hc
        refine y_next (pc' := 62) (xst_of (i := (.ifCond .lt 7)) (len := 3) rfl rfl (xf_if_lt (t := 66) rfl (fun z => hc ((lg_cmp_lt (x6 + (Int32.toInt64 (fI Y5 (1, 0, 0) 8))) (Int32.toInt64 l1)).mp z)))) ?_
        exact H _ _ R e0 e1
  · replace H := H.2 hc
    refine y_next (pc' := 15) (xst_of (i := (.if_icmp .eq 5)) (len := 3) rfl rfl (xf_icmp_eq (t := 17) rfl hc)) ?_
    refine y_next (pc' := 16) (xst_of (i := (.iconst 2)) (len := 1) rfl rfl (x_ico (v := 2) (by decide))) ?_
    exact y_ret (xst_of (i := .ireturn) (len := 1) rfl rfl rfl) ⟨_, _, rfl, R, H⟩
theorem l_18_62 {V : xV} {g : xG} {Y : xW} {l1 : Int32} {Q : Int32 → xW → Prop} (H : L_18_67 V g Y l1 3 Q) : L_18_62 V g Y l1 Q := by
  intro h lv R e0 e1
  refine y_next (pc' := 63) (xst_of (i := (.iconst 3)) (len := 1) rfl rfl (x_ico (v := 3) (by decide))) ?_
  refine y_next (pc' := 67) (xst_of (i := (.goto 4)) (len := 3) rfl rfl rfl) ?_
  exact H _ _ R e0 e1
theorem l_18_67 {V : xV} {g : xG} {Y : xW} {l1 : Int32} {s0 : Int32} {Q : Int32 → xW → Prop} (H : Q s0 Y) : L_18_67 V g Y l1 s0 Q := by
  intro h lv R e0 e1
  exact y_ret (xst_of (i := .ireturn) (len := 1) rfl rfl rfl) ⟨_, _, rfl, R, H⟩
theorem l_19_0 {V : xV} {g : xG} {Y : xW} {l1 : xT} {l2 : Int32} {l3 : xT} {Q : Int32 → xW → Prop} (H : L_44_0 V g Y l1 l2 (fun o2 Y1 => (o2 = none → L_19_24 V g Y1 l1 l2 l3 none Q) ∧ (∀ u3, o2 = some u3 → (((fI Y1 u3 1) = (fI Y1 (1, 0, 0) 3)) → L_85_0 V g Y1 l3 (xsub u3 0) (fun x5 Y4 => ((x5 = 0) → L_19_43 V g Y4 l1 l2 l3 (some u3) 4 Q) ∧ (¬ (x5 = 0) → L_19_43 V g Y4 l1 l2 l3 (some u3) 0 Q))) ∧ (¬ ((fI Y1 u3 1) = (fI Y1 (1, 0, 0) 3)) → L_19_24 V g Y1 l1 l2 l3 (some u3) Q)))) : L_19_0 V g Y l1 l2 l3 Q := by
  intro h lv R e0 e1 e2 e3 ok_l1 ok_l3
  refine y_next (pc' := 1) (xst_of (i := (.aload_n 1)) (len := 1) rfl rfl (x_aloadV (xisV_r _) e1)) ?_
  refine y_next (pc' := 2) (xst_of (i := (.iload_n 2)) (len := 1) rfl rfl (x_ilo e2)) ?_
  refine z_cR (c := 2) (k := 44) (i := (.invokevirtual 34)) (as := [.ref (g.2 l1 0), .int l2]) (rest := []) rfl rfl (x_callv rfl rfl (rc_ob R ok_l1 rfl) rfl rfl) (H _ _ R rfl rfl ok_l1) (fun o2 h Y1 R ok_o2 H => ?_)
  refine z_as (i := (.astore 4)) (len := 2) (pc' := 7) (q := 4) rfl rfl rfl (by decide) (rv_V g o2) (fun lv1 hlv => ?_)
  have e0 := xs1_A hlv e0 rfl rfl
  have e1 := xs1_A hlv e1 rfl rfl
  have e2 := xs1_A hlv e2 rfl rfl
  have e3 := xs1_B hlv e3 rfl rfl
  have e4 := xs1_N hlv
  clear hlv
  refine y_next (pc' := 9) (xst_of (i := (.aload 4)) (len := 2) rfl rfl (x_aloadV (rv_V g o2) e4)) ?_
  rcases o2 with _ | u3
  · replace H := H.1 rfl
    refine y_next (pc' := 24) (xst_of (i := (.ifnull 15)) (len := 3) rfl rfl rfl) ?_
    exact H _ _ R e0 e1 e2 e3 e4 ok_l1 ok_l3 ok_n
  · replace H := H.2 u3 rfl
    have ok_u3 := ok_o2 u3 rfl
    refine y_next (pc' := 12) (xst_of (i := (.ifnull 15)) (len := 3) rfl rfl rfl) ?_
    refine y_next (pc' := 14) (xst_of (i := (.aload 4)) (len := 2) rfl rfl (x_aloadV (xisV_r _) e4)) ?_
    refine z_gI (t := u3) (k := 1) rfl rfl rfl R ok_u3 ?_
    refine y_next (pc' := 18) (xst_of (i := (.aload_n 0)) (len := 1) rfl rfl (x_aloadV (xisV_r _) e0)) ?_
    refine z_gI (t := (1, 0, 0)) (k := 3) rfl rfl rfl R (rc_1 R) ?_
    by_cases hc : (fI Y1 u3 1) = (fI Y1 (1, 0, 0) 3)
    · replace H := H.1 hc
      refine y_next (xst_of (i := (.if_icmp .eq 5)) (len := 3) rfl rfl (xt_icmp_eq (t := 26) rfl hc)) ?_
      refine y_next (pc' := 27) (xst_of (i := (.aload_n 3)) (len := 1) rfl rfl (x_aloadV (xisV_r _) e3)) ?_
      refine y_next (pc' := 29) (xst_of (i := (.aload 4)) (len := 2) rfl rfl (x_aloadV (xisV_r _) e4)) ?_
      refine z_gO (t := u3) (k := 0) rfl rfl rfl R ok_u3 ?_
      refine z_cI (k := 85) (i := (.invokevirtual 218)) (as := [.ref (g.2 l3 0), .ref (g.2 (xsub u3 0) 0)]) (rest := []) rfl rfl (x_callv rfl rfl (rc_ob R ok_l3 rfl) rfl rfl) (H _ _ R rfl rfl ok_l3 (rc_sb R ok_u3 (k := 0) rfl rfl)) (fun x5 h Y4 R H => ?_)
      by_cases hc : x5 = 0
      · replace H := H.1 hc
        refine y_next (xst_of (i := (.ifCond .eq 7)) (len := 3) rfl rfl (xt_if_eq (t := 42) rfl hc)) ?_
        refine y_next (pc' := 43) (xst_of (i := (.iconst 4)) (len := 1) rfl rfl (x_ico (v := 4) (by decide))) ?_
        exact H _ _ R e0 e1 e2 e3 e4 ok_l1 ok_l3 (ok_s ok_u3)
      · replace H := H.2 hc
        refine y_next (pc' := 38) (xst_of (i := (.ifCond .eq 7)) (len := 3) rfl rfl (xf_if_eq (t := 42) rfl hc)) ?_
        refine y_next (pc' := 39) (xst_of (i := (.iconst 0)) (len := 1) rfl rfl (x_ico (v := 0) (by decide))) ?_
        refine y_next (pc' := 43) (xst_of (i := (.goto 4)) (len := 3) rfl rfl rfl) ?_
        exact H _ _ R e0 e1 e2 e3 e4 ok_l1 ok_l3 (ok_s ok_u3)
    · replace H := H.2 hc
      refine y_next (pc' := 24) (xst_of (i := (.if_icmp .eq 5)) (len := 3) rfl rfl (xf_icmp_eq (t := 26) rfl hc)) ?_
      exact H _ _ R e0 e1 e2 e3 e4 ok_l1 ok_l3 (ok_s ok_u3)
theorem l_19_24 {V : xV} {g : xG} {Y : xW} {l1 : xT} {l2 : Int32} {l3 : xT} {l4 : Option xT} {Q : Int32 → xW → Prop} (H : Q 1 Y) : L_19_24 V g Y l1 l2 l3 l4 Q := by
  intro h lv R e0 e1 e2 e3 e4 ok_l1 ok_l3 ok_l4
  refine y_next (pc' := 25) (xst_of (i := (.iconst 1)) (len := 1) rfl rfl (x_ico (v := 1) (by decide))) ?_
  exact y_ret (xst_of (i := .ireturn) (len := 1) rfl rfl rfl) ⟨_, _, rfl, R, H⟩
theorem l_19_43 {V : xV} {g : xG} {Y : xW} {l1 : xT} {l2 : Int32} {l3 : xT} {l4 : Option xT} {s0 : Int32} {Q : Int32 → xW → Prop} (H : Q s0 Y) : L_19_43 V g Y l1 l2 l3 l4 s0 Q := by
  intro h lv R e0 e1 e2 e3 e4 ok_l1 ok_l3 ok_l4
  exact y_ret (xst_of (i := .ireturn) (len := 1) rfl rfl rfl) ⟨_, _, rfl, R, H⟩
theorem l_20_0 {V : xV} {g : xG} {Y : xW} {l1 : xT} {l2 : Int32} {Q : Int32 → xW → Prop} (H : ((1 : Int32) = 0 ∨ (1 : Int32) = 1) ∧ ∀ Y1, Y1 = uI Y (1, 0, 0) 2 1 → L_42_0 V g Y1 l1 (l2 + 1) (fun x3 Y2 => ((x3 = 0) → L_20_27 V g Y2 l1 l2 (l2 + 1) Q) ∧ (¬ (x3 = 0) → L_44_0 V g Y2 l1 (l2 + 1) (fun o5 Y4 => (o5 = none → Q 0 Y4) ∧ (∀ u6, o5 = some u6 → L_20_27 V g Y4 l1 l2 (l2 + 1) Q))))) : L_20_0 V g Y l1 l2 Q := by
  intro h lv R e0 e1 e2 ok_l1
  refine y_next (pc' := 1) (xst_of (i := (.iload_n 2)) (len := 1) rfl rfl (x_ilo e2)) ?_
  refine y_next (pc' := 2) (xst_of (i := (.iconst 1)) (len := 1) rfl rfl (x_ico (v := 1) (by decide))) ?_
  refine y_next (pc' := 3) (xst_of (i := .iadd) (len := 1) rfl rfl rfl) ?_
  refine z_is (i := (.istore_n 3)) (len := 1) (pc' := 4) (q := 3) rfl rfl rfl (by decide) (fun lv1 hlv => ?_)
  have e0 := xs1_A hlv e0 rfl rfl
  have e1 := xs1_A hlv e1 rfl rfl
  have e2 := xs1_B hlv e2 rfl rfl
  have e3 := xs1_N hlv
  clear hlv
  refine y_next (pc' := 5) (xst_of (i := (.aload_n 0)) (len := 1) rfl rfl (x_aloadV (xisV_r _) e0)) ?_
  refine y_next (pc' := 6) (xst_of (i := (.iconst 1)) (len := 1) rfl rfl (x_ico (v := 1) (by decide))) ?_
  have hz := H.1
  replace H := H.2
  refine z_pI (t := (1, 0, 0)) (k := 2) rfl rfl rfl (xfit_z hz) rfl R (rc_1 R) (fun h Y1 hY R => ?_)
  replace H := H Y1 hY
  clear hY
  refine y_next (pc' := 10) (xst_of (i := (.aload_n 1)) (len := 1) rfl rfl (x_aloadV (xisV_r _) e1)) ?_
  refine y_next (pc' := 11) (xst_of (i := (.iload_n 3)) (len := 1) rfl rfl (x_ilo e3)) ?_
  refine z_cI (k := 42) (i := (.invokevirtual 222)) (as := [.ref (g.2 l1 0), .int (l2 + 1)]) (rest := []) rfl rfl (x_callv rfl rfl (rc_ob R ok_l1 rfl) rfl rfl) (H _ _ R rfl rfl ok_l1) (fun x3 h Y2 R H => ?_)
  by_cases hc : x3 = 0
  · replace H := H.1 hc
    refine y_next (xst_of (i := (.ifCond .eq 13)) (len := 3) rfl rfl (xt_if_eq (t := 27) rfl hc)) ?_
    exact H _ _ R e0 e1 e2 e3 ok_l1
  · replace H := H.2 hc
    refine y_next (pc' := 17) (xst_of (i := (.ifCond .eq 13)) (len := 3) rfl rfl (xf_if_eq (t := 27) rfl hc)) ?_
    refine y_next (pc' := 18) (xst_of (i := (.aload_n 1)) (len := 1) rfl rfl (x_aloadV (xisV_r _) e1)) ?_
    refine y_next (pc' := 19) (xst_of (i := (.iload_n 3)) (len := 1) rfl rfl (x_ilo e3)) ?_
    refine z_cR (c := 2) (k := 44) (i := (.invokevirtual 34)) (as := [.ref (g.2 l1 0), .int (l2 + 1)]) (rest := []) rfl rfl (x_callv rfl rfl (rc_ob R ok_l1 rfl) rfl rfl) (H _ _ R rfl rfl ok_l1) (fun o5 h Y4 R ok_o5 H => ?_)
    rcases o5 with _ | u6
    · replace H := H.1 rfl
      refine y_next (pc' := 25) (xst_of (i := (.ifnonnull 5)) (len := 3) rfl rfl rfl) ?_
      refine y_next (pc' := 26) (xst_of (i := (.iconst 0)) (len := 1) rfl rfl (x_ico (v := 0) (by decide))) ?_
      exact y_ret (xst_of (i := .ireturn) (len := 1) rfl rfl rfl) ⟨_, _, rfl, R, H⟩
    · replace H := H.2 u6 rfl
      have ok_u6 := ok_o5 u6 rfl
      refine y_next (pc' := 27) (xst_of (i := (.ifnonnull 5)) (len := 3) rfl rfl rfl) ?_
      exact H _ _ R e0 e1 e2 e3 ok_l1
theorem l_20_27 {V : xV} {g : xG} {Y : xW} {l1 : xT} {l2 : Int32} {l3 : Int32} {Q : Int32 → xW → Prop} (H : L_19_0 V g Y l1 l3 (23, 0, 0) (fun x2 Y1 => Q x2 Y1)) : L_20_27 V g Y l1 l2 l3 Q := by
  intro h lv R e0 e1 e2 e3 ok_l1
  refine y_next (pc' := 28) (xst_of (i := (.aload_n 0)) (len := 1) rfl rfl (x_aloadV (xisV_r _) e0)) ?_
  refine y_next (pc' := 29) (xst_of (i := (.aload_n 1)) (len := 1) rfl rfl (x_aloadV (xisV_r _) e1)) ?_
  refine y_next (pc' := 30) (xst_of (i := (.iload_n 3)) (len := 1) rfl rfl (x_ilo e3)) ?_
  refine y_next (pc' := 31) (xst_of (i := (.aload_n 0)) (len := 1) rfl rfl (x_aloadV (xisV_r _) e0)) ?_
  refine z_gO (t := (1, 0, 0)) (k := 0) rfl rfl rfl R (rc_1 R) ?_
  refine z_cI (k := 19) (i := (.invokevirtual 81)) (as := [.ref (g.2 (1, 0, 0) 0), .ref (g.2 l1 0), .int l3, .ref (g.2 (23, 0, 0) 0)]) (rest := []) rfl rfl (x_callv rfl rfl (rc_ob R (rc_1 R) rfl) rfl rfl) (H _ _ R rfl rfl rfl rfl ok_l1 (rc_sb R (rc_1 R) (k := 0) rfl rfl)) (fun x2 h Y1 R H => ?_)
  exact y_ret (xst_of (i := .ireturn) (len := 1) rfl rfl rfl) ⟨_, _, rfl, R, H⟩
theorem l_21_0 {V : xV} {g : xG} {Y : xW} {l1 : xT} {l2 : Int32} {Q : Int32 → xW → Prop} (H : (((fI Y (1, 0, 0) 4) = (fI Y (1, 0, 0) 5)) → L_20_0 V g Y l1 l2 (fun x2 Y1 => Q x2 Y1)) ∧ (¬ ((fI Y (1, 0, 0) 4) = (fI Y (1, 0, 0) 5)) → L_77_0 V g Y (23, 0, 0) (fI Y (1, 0, 0) 4) (fun x4 Y3 => L_78_0 V g Y3 (23, 0, 0) (fI Y3 (1, 0, 0) 4) (fun x6 Y5 => L_77_0 V g Y5 (23, 0, 0) (fI Y5 (1, 0, 0) 5) (fun x8 Y7 => L_78_0 V g Y7 (23, 0, 0) (fI Y7 (1, 0, 0) 5) (fun x10 Y9 => ((x10 ≤ x4) → L_21_152 V g Y9 l1 l2 x4 x6 x8 x10 Q) ∧ (¬ (x10 ≤ x4) → L_84_0 V g Y9 (23, 0, 1) (23, 0, 0) (fun Y11 => L_188_0 V g Y11 x6 (x10 - 1) (fun x13 Y12 => L_81_0 V g Y12 (23, 0, 1) (fI Y11 (1, 0, 0) 4) x4 x13 (fun Y14 => L_186_0 V g Y14 x8 (x4 + 1) (fun x16 Y15 => L_81_0 V g Y15 (23, 0, 1) (fI Y14 (1, 0, 0) 5) x16 x10 (fun Y17 => L_19_0 V g Y17 l1 (fI Y17 (1, 0, 0) 7) (23, 0, 1) (fun x19 Y18 => ((x19 = 0) → L_21_152 V g Y18 l1 l2 x4 x6 x8 x10 Q) ∧ (¬ (x19 = 0) → Q x19 Y18)))))))))))))) : L_21_0 V g Y l1 l2 Q := by
  intro h lv R e0 e1 e2 ok_l1
  refine y_next (pc' := 1) (xst_of (i := (.aload_n 0)) (len := 1) rfl rfl (x_aloadV (xisV_r _) e0)) ?_
  refine z_gI (t := (1, 0, 0)) (k := 4) rfl rfl rfl R (rc_1 R) ?_
  refine y_next (pc' := 5) (xst_of (i := (.aload_n 0)) (len := 1) rfl rfl (x_aloadV (xisV_r _) e0)) ?_
  refine z_gI (t := (1, 0, 0)) (k := 5) rfl rfl rfl R (rc_1 R) ?_
  by_cases hc : (fI Y (1, 0, 0) 4) = (fI Y (1, 0, 0) 5)
  · replace H := H.1 hc
    refine y_next (pc' := 11) (xst_of (i := (.if_icmp .ne 10)) (len := 3) rfl rfl (xf_icmp_ne (t := 18) rfl (fun z => z hc))) ?_
    refine y_next (pc' := 12) (xst_of (i := (.aload_n 0)) (len := 1) rfl rfl (x_aloadV (xisV_r _) e0)) ?_
    refine y_next (pc' := 13) (xst_of (i := (.aload_n 1)) (len := 1) rfl rfl (x_aloadV (xisV_r _) e1)) ?_
    refine y_next (pc' := 14) (xst_of (i := (.iload_n 2)) (len := 1) rfl rfl (x_ilo e2)) ?_
    refine z_cI (k := 20) (i := (.invokevirtual 111)) (as := [.ref (g.2 (1, 0, 0) 0), .ref (g.2 l1 0), .int l2]) (rest := []) rfl rfl (x_callv rfl rfl (rc_ob R (rc_1 R) rfl) rfl rfl) (H _ _ R rfl rfl rfl ok_l1) (fun x2 h Y1 R H => ?_)
    exact y_ret (xst_of (i := .ireturn) (len := 1) rfl rfl rfl) ⟨_, _, rfl, R, H⟩
  · replace H := H.2 hc
    refine y_next (xst_of (i := (.if_icmp .ne 10)) (len := 3) rfl rfl (xt_icmp_ne (t := 18) rfl hc)) ?_
    refine y_next (pc' := 19) (xst_of (i := (.aload_n 0)) (len := 1) rfl rfl (x_aloadV (xisV_r _) e0)) ?_
    refine z_gO (t := (1, 0, 0)) (k := 0) rfl rfl rfl R (rc_1 R) ?_
    refine y_next (pc' := 23) (xst_of (i := (.aload_n 0)) (len := 1) rfl rfl (x_aloadV (xisV_r _) e0)) ?_
    refine z_gI (t := (1, 0, 0)) (k := 4) rfl rfl rfl R (rc_1 R) ?_
    refine z_cL (k := 77) (i := (.invokevirtual 162)) (as := [.ref (g.2 (23, 0, 0) 0), .int (fI Y (1, 0, 0) 4)]) (rest := []) rfl rfl (x_callv rfl rfl (rc_ob R (rc_sb R (rc_1 R) (k := 0) rfl rfl) rfl) rfl rfl) (H _ _ R rfl rfl (rc_sb R (rc_1 R) (k := 0) rfl rfl)) (fun x4 h Y3 R H => ?_)
    refine z_ls (i := (.lstore_n 3)) (len := 1) (pc' := 30) (q := 3) rfl rfl rfl (by decide) (fun lv1 hlv => ?_)
    have e0 := xs2_A hlv e0 rfl rfl
    have e1 := xs2_A hlv e1 rfl rfl
    have e2 := xs2_B hlv e2 rfl rfl
    have e3 := xs2_N hlv
    clear hlv
    refine y_next (pc' := 31) (xst_of (i := (.aload_n 0)) (len := 1) rfl rfl (x_aloadV (xisV_r _) e0)) ?_
    refine z_gO (t := (1, 0, 0)) (k := 0) rfl rfl rfl R (rc_1 R) ?_
    refine y_next (pc' := 35) (xst_of (i := (.aload_n 0)) (len := 1) rfl rfl (x_aloadV (xisV_r _) e0)) ?_
    refine z_gI (t := (1, 0, 0)) (k := 4) rfl rfl rfl R (rc_1 R) ?_
    refine z_cL (k := 78) (i := (.invokevirtual 166)) (as := [.ref (g.2 (23, 0, 0) 0), .int (fI Y3 (1, 0, 0) 4)]) (rest := []) rfl rfl (x_callv rfl rfl (rc_ob R (rc_sb R (rc_1 R) (k := 0) rfl rfl) rfl) rfl rfl) (H _ _ R rfl rfl (rc_sb R (rc_1 R) (k := 0) rfl rfl)) (fun x6 h Y5 R H => ?_)
    refine z_ls (i := (.lstore 5)) (len := 2) (pc' := 43) (q := 5) rfl rfl rfl (by decide) (fun lv2 hlv => ?_)
    have e0 := xs2_A hlv e0 rfl rfl
    have e1 := xs2_A hlv e1 rfl rfl
    have e2 := xs2_A hlv e2 rfl rfl
    have e3 := xs2_A hlv e3 rfl rfl
    have e5 := xs2_N hlv
    clear hlv
    refine y_next (pc' := 44) (xst_of (i := (.aload_n 0)) (len := 1) rfl rfl (x_aloadV (xisV_r _) e0)) ?_
    refine z_gO (t := (1, 0, 0)) (k := 0) rfl rfl rfl R (rc_1 R) ?_
    refine y_next (pc' := 48) (xst_of (i := (.aload_n 0)) (len := 1) rfl rfl (x_aloadV (xisV_r _) e0)) ?_
    refine z_gI (t := (1, 0, 0)) (k := 5) rfl rfl rfl R (rc_1 R) ?_
    refine z_cL (k := 77) (i := (.invokevirtual 162)) (as := [.ref (g.2 (23, 0, 0) 0), .int (fI Y5 (1, 0, 0) 5)]) (rest := []) rfl rfl (x_callv rfl rfl (rc_ob R (rc_sb R (rc_1 R) (k := 0) rfl rfl) rfl) rfl rfl) (H _ _ R rfl rfl (rc_sb R (rc_1 R) (k := 0) rfl rfl)) (fun x8 h Y7 R H => ?_)
    refine z_ls (i := (.lstore 7)) (len := 2) (pc' := 56) (q := 7) rfl rfl rfl (by decide) (fun lv3 hlv => ?_)
    have e0 := xs2_A hlv e0 rfl rfl
    have e1 := xs2_A hlv e1 rfl rfl
    have e2 := xs2_A hlv e2 rfl rfl
    have e3 := xs2_A hlv e3 rfl rfl
    have e5 := xs2_A hlv e5 rfl rfl
    have e7 := xs2_N hlv
    clear hlv
    refine y_next (pc' := 57) (xst_of (i := (.aload_n 0)) (len := 1) rfl rfl (x_aloadV (xisV_r _) e0)) ?_
    refine z_gO (t := (1, 0, 0)) (k := 0) rfl rfl rfl R (rc_1 R) ?_
    refine y_next (pc' := 61) (xst_of (i := (.aload_n 0)) (len := 1) rfl rfl (x_aloadV (xisV_r _) e0)) ?_
    refine z_gI (t := (1, 0, 0)) (k := 5) rfl rfl rfl R (rc_1 R) ?_
    refine z_cL (k := 78) (i := (.invokevirtual 166)) (as := [.ref (g.2 (23, 0, 0) 0), .int (fI Y7 (1, 0, 0) 5)]) (rest := []) rfl rfl (x_callv rfl rfl (rc_ob R (rc_sb R (rc_1 R) (k := 0) rfl rfl) rfl) rfl rfl) (H _ _ R rfl rfl (rc_sb R (rc_1 R) (k := 0) rfl rfl)) (fun x10 h Y9 R H => ?_)
    refine z_ls (i := (.lstore 9)) (len := 2) (pc' := 69) (q := 9) rfl rfl rfl (by decide) (fun lv4 hlv => ?_)
    have e0 := xs2_A hlv e0 rfl rfl
    have e1 := xs2_A hlv e1 rfl rfl
    have e2 := xs2_A hlv e2 rfl rfl
    have e3 := xs2_A hlv e3 rfl rfl
    have e5 := xs2_A hlv e5 rfl rfl
    have e7 := xs2_A hlv e7 rfl rfl
    have e9 := xs2_N hlv
    clear hlv
    refine y_next (pc' := 70) (xst_of (i := (.lload_n 3)) (len := 1) rfl rfl (x_llo e3)) ?_
    refine y_next (pc' := 72) (xst_of (i := (.lload 9)) (len := 2) rfl rfl (x_llo e9)) ?_
    refine y_next (pc' := 73) (xst_of (i := .lcmp) (len := 1) rfl rfl rfl) ?_
    by_cases hc : x10 ≤ x4
    · replace H := H.1 hc
      refine y_next (xst_of (i := (.ifCond .ge 79)) (len := 3) rfl rfl (xt_if_ge (t := 152) rfl ((lg_cmp_ge x4 x10).mpr hc))) ?_
      exact H _ _ R e0 e1 e2 e3 e5 e7 e9 ok_l1
    · replace H := H.2 hc
      refine y_next (pc' := 76) (xst_of (i := (.ifCond .ge 79)) (len := 3) rfl rfl (xf_if_ge (t := 152) rfl (fun z => hc ((lg_cmp_ge x4 x10).mp z)))) ?_
      refine y_next (pc' := 77) (xst_of (i := (.aload_n 0)) (len := 1) rfl rfl (x_aloadV (xisV_r _) e0)) ?_
      refine z_gO (t := (1, 0, 0)) (k := 1) rfl rfl rfl R (rc_1 R) ?_
      refine y_next (pc' := 81) (xst_of (i := (.aload_n 0)) (len := 1) rfl rfl (x_aloadV (xisV_r _) e0)) ?_
      refine z_gO (t := (1, 0, 0)) (k := 0) rfl rfl rfl R (rc_1 R) ?_
      refine z_cN (k := 84) (i := (.invokevirtual 56)) (as := [.ref (g.2 (23, 0, 1) 0), .ref (g.2 (23, 0, 0) 0)]) (rest := []) rfl rfl (x_callv rfl rfl (rc_ob R (rc_sb R (rc_1 R) (k := 1) rfl rfl) rfl) rfl rfl) (H _ _ R rfl rfl (rc_sb R (rc_1 R) (k := 1) rfl rfl) (rc_sb R (rc_1 R) (k := 0) rfl rfl)) (fun h Y11 R H => ?_)
      refine y_next (pc' := 88) (xst_of (i := (.aload_n 0)) (len := 1) rfl rfl (x_aloadV (xisV_r _) e0)) ?_
      refine z_gO (t := (1, 0, 0)) (k := 1) rfl rfl rfl R (rc_1 R) ?_
      refine y_next (pc' := 92) (xst_of (i := (.aload_n 0)) (len := 1) rfl rfl (x_aloadV (xisV_r _) e0)) ?_
      refine z_gI (t := (1, 0, 0)) (k := 4) rfl rfl rfl R (rc_1 R) ?_
      refine y_next (pc' := 96) (xst_of (i := (.lload_n 3)) (len := 1) rfl rfl (x_llo e3)) ?_
      refine y_next (pc' := 98) (xst_of (i := (.lload 5)) (len := 2) rfl rfl (x_llo e5)) ?_
      refine y_next (pc' := 100) (xst_of (i := (.lload 9)) (len := 2) rfl rfl (x_llo e9)) ?_
      refine y_next (pc' := 101) (xst_of (i := (.lconst 1)) (len := 1) rfl rfl (x_lco (v := 1) (by decide))) ?_
      refine y_next (pc' := 102) (xst_of (i := .lsub) (len := 1) rfl rfl rfl) ?_
      refine z_cL (k := 188) (i := (.invokestatic 211)) (as := [.long x6, .long (x10 - 1)]) (rest := [.long x4, .int (fI Y11 (1, 0, 0) 4), .ref (g.2 (23, 0, 1) 0)]) rfl rfl rfl (H _ _ R rfl rfl) (fun x13 h Y12 R H => ?_)
      refine z_cN (k := 81) (i := (.invokevirtual 183)) (as := [.ref (g.2 (23, 0, 1) 0), .int (fI Y11 (1, 0, 0) 4), .long x4, .long x13]) (rest := []) rfl rfl (x_callv rfl rfl (rc_ob R (rc_sb R (rc_1 R) (k := 1) rfl rfl) rfl) rfl rfl) (H _ _ R rfl rfl rfl rfl (rc_sb R (rc_1 R) (k := 1) rfl rfl)) (fun h Y14 R H => ?_)
      refine y_next (pc' := 109) (xst_of (i := (.aload_n 0)) (len := 1) rfl rfl (x_aloadV (xisV_r _) e0)) ?_
      refine z_gO (t := (1, 0, 0)) (k := 1) rfl rfl rfl R (rc_1 R) ?_
      refine y_next (pc' := 113) (xst_of (i := (.aload_n 0)) (len := 1) rfl rfl (x_aloadV (xisV_r _) e0)) ?_
      refine z_gI (t := (1, 0, 0)) (k := 5) rfl rfl rfl R (rc_1 R) ?_
      refine y_next (pc' := 118) (xst_of (i := (.lload 7)) (len := 2) rfl rfl (x_llo e7)) ?_
      refine y_next (pc' := 119) (xst_of (i := (.lload_n 3)) (len := 1) rfl rfl (x_llo e3)) ?_
      refine y_next (pc' := 120) (xst_of (i := (.lconst 1)) (len := 1) rfl rfl (x_lco (v := 1) (by decide))) ?_
      refine y_next (pc' := 121) (xst_of (i := .ladd) (len := 1) rfl rfl rfl) ?_
      refine z_cL (k := 186) (i := (.invokestatic 207)) (as := [.long x8, .long (x4 + 1)]) (rest := [.int (fI Y14 (1, 0, 0) 5), .ref (g.2 (23, 0, 1) 0)]) rfl rfl rfl (H _ _ R rfl rfl) (fun x16 h Y15 R H => ?_)
      refine y_next (pc' := 126) (xst_of (i := (.lload 9)) (len := 2) rfl rfl (x_llo e9)) ?_
      refine z_cN (k := 81) (i := (.invokevirtual 183)) (as := [.ref (g.2 (23, 0, 1) 0), .int (fI Y14 (1, 0, 0) 5), .long x16, .long x10]) (rest := []) rfl rfl (x_callv rfl rfl (rc_ob R (rc_sb R (rc_1 R) (k := 1) rfl rfl) rfl) rfl rfl) (H _ _ R rfl rfl rfl rfl (rc_sb R (rc_1 R) (k := 1) rfl rfl)) (fun h Y17 R H => ?_)
      refine y_next (pc' := 130) (xst_of (i := (.aload_n 0)) (len := 1) rfl rfl (x_aloadV (xisV_r _) e0)) ?_
      refine y_next (pc' := 131) (xst_of (i := (.aload_n 1)) (len := 1) rfl rfl (x_aloadV (xisV_r _) e1)) ?_
      refine y_next (pc' := 132) (xst_of (i := (.aload_n 0)) (len := 1) rfl rfl (x_aloadV (xisV_r _) e0)) ?_
      refine z_gI (t := (1, 0, 0)) (k := 7) rfl rfl rfl R (rc_1 R) ?_
      refine y_next (pc' := 136) (xst_of (i := (.aload_n 0)) (len := 1) rfl rfl (x_aloadV (xisV_r _) e0)) ?_
      refine z_gO (t := (1, 0, 0)) (k := 1) rfl rfl rfl R (rc_1 R) ?_
      refine z_cI (k := 19) (i := (.invokevirtual 81)) (as := [.ref (g.2 (1, 0, 0) 0), .ref (g.2 l1 0), .int (fI Y17 (1, 0, 0) 7), .ref (g.2 (23, 0, 1) 0)]) (rest := []) rfl rfl (x_callv rfl rfl (rc_ob R (rc_1 R) rfl) rfl rfl) (H _ _ R rfl rfl rfl rfl ok_l1 (rc_sb R (rc_1 R) (k := 1) rfl rfl)) (fun x19 h Y18 R H => ?_)
      refine z_is (i := (.istore 11)) (len := 2) (pc' := 144) (q := 11) rfl rfl rfl (by decide) (fun lv5 hlv => ?_)
      have e0 := xs1_A hlv e0 rfl rfl
      have e1 := xs1_A hlv e1 rfl rfl
      have e2 := xs1_A hlv e2 rfl rfl
      have e3 := xs1_A hlv e3 rfl rfl
      have e5 := xs1_A hlv e5 rfl rfl
      have e7 := xs1_A hlv e7 rfl rfl
      have e9 := xs1_A hlv e9 rfl rfl
      have e11 := xs1_N hlv
      clear hlv
      refine y_next (pc' := 146) (xst_of (i := (.iload 11)) (len := 2) rfl rfl (x_ilo e11)) ?_
      by_cases hc : x19 = 0
      · replace H := H.1 hc
        refine y_next (xst_of (i := (.ifCond .eq 6)) (len := 3) rfl rfl (xt_if_eq (t := 152) rfl hc)) ?_
        exact H _ _ R e0 e1 e2 e3 e5 e7 e9 ok_l1
      · replace H := H.2 hc
        refine y_next (pc' := 149) (xst_of (i := (.ifCond .eq 6)) (len := 3) rfl rfl (xf_if_eq (t := 152) rfl hc)) ?_
        refine y_next (pc' := 151) (xst_of (i := (.iload 11)) (len := 2) rfl rfl (x_ilo e11)) ?_
        exact y_ret (xst_of (i := .ireturn) (len := 1) rfl rfl rfl) ⟨_, _, rfl, R, H⟩
theorem l_21_152 {V : xV} {g : xG} {Y : xW} {l1 : xT} {l2 : Int32} {l3 : Int64} {l5 : Int64} {l7 : Int64} {l9 : Int64} {Q : Int32 → xW → Prop} (H : ((l7 ≤ l5) → L_186_0 V g Y l3 l7 (fun x2 Y1 => L_81_0 V g Y1 (23, 0, 0) (fI Y (1, 0, 0) 4) x2 l5 (fun Y3 => L_188_0 V g Y3 l9 l5 (fun x5 Y4 => L_81_0 V g Y4 (23, 0, 0) (fI Y3 (1, 0, 0) 5) l7 x5 (fun Y6 => L_20_0 V g Y6 l1 l2 (fun x8 Y7 => Q x8 Y7)))))) ∧ (¬ (l7 ≤ l5) → Q 0 Y)) : L_21_152 V g Y l1 l2 l3 l5 l7 l9 Q := by
  intro h lv R e0 e1 e2 e3 e5 e7 e9 ok_l1
  refine y_next (pc' := 154) (xst_of (i := (.lload 5)) (len := 2) rfl rfl (x_llo e5)) ?_
  refine y_next (pc' := 156) (xst_of (i := (.lload 7)) (len := 2) rfl rfl (x_llo e7)) ?_
  refine y_next (pc' := 157) (xst_of (i := .lcmp) (len := 1) rfl rfl rfl) ?_
  by_cases hc : l7 ≤ l5
  · replace H := H.1 hc
    refine y_next (xst_of (i := (.ifCond .ge 5)) (len := 3) rfl rfl (xt_if_ge (t := 162) rfl ((lg_cmp_ge l5 l7).mpr hc))) ?_
    refine y_next (pc' := 163) (xst_of (i := (.aload_n 0)) (len := 1) rfl rfl (x_aloadV (xisV_r _) e0)) ?_
    refine z_gO (t := (1, 0, 0)) (k := 0) rfl rfl rfl R (rc_1 R) ?_
    refine y_next (pc' := 167) (xst_of (i := (.aload_n 0)) (len := 1) rfl rfl (x_aloadV (xisV_r _) e0)) ?_
    refine z_gI (t := (1, 0, 0)) (k := 4) rfl rfl rfl R (rc_1 R) ?_
    refine y_next (pc' := 171) (xst_of (i := (.lload_n 3)) (len := 1) rfl rfl (x_llo e3)) ?_
    refine y_next (pc' := 173) (xst_of (i := (.lload 7)) (len := 2) rfl rfl (x_llo e7)) ?_
    refine z_cL (k := 186) (i := (.invokestatic 207)) (as := [.long l3, .long l7]) (rest := [.int (fI Y (1, 0, 0) 4), .ref (g.2 (23, 0, 0) 0)]) rfl rfl rfl (H _ _ R rfl rfl) (fun x2 h Y1 R H => ?_)
    refine y_next (pc' := 178) (xst_of (i := (.lload 5)) (len := 2) rfl rfl (x_llo e5)) ?_
    refine z_cN (k := 81) (i := (.invokevirtual 183)) (as := [.ref (g.2 (23, 0, 0) 0), .int (fI Y (1, 0, 0) 4), .long x2, .long l5]) (rest := []) rfl rfl (x_callv rfl rfl (rc_ob R (rc_sb R (rc_1 R) (k := 0) rfl rfl) rfl) rfl rfl) (H _ _ R rfl rfl rfl rfl (rc_sb R (rc_1 R) (k := 0) rfl rfl)) (fun h Y3 R H => ?_)
    refine y_next (pc' := 182) (xst_of (i := (.aload_n 0)) (len := 1) rfl rfl (x_aloadV (xisV_r _) e0)) ?_
    refine z_gO (t := (1, 0, 0)) (k := 0) rfl rfl rfl R (rc_1 R) ?_
    refine y_next (pc' := 186) (xst_of (i := (.aload_n 0)) (len := 1) rfl rfl (x_aloadV (xisV_r _) e0)) ?_
    refine z_gI (t := (1, 0, 0)) (k := 5) rfl rfl rfl R (rc_1 R) ?_
    refine y_next (pc' := 191) (xst_of (i := (.lload 7)) (len := 2) rfl rfl (x_llo e7)) ?_
    refine y_next (pc' := 193) (xst_of (i := (.lload 9)) (len := 2) rfl rfl (x_llo e9)) ?_
    refine y_next (pc' := 195) (xst_of (i := (.lload 5)) (len := 2) rfl rfl (x_llo e5)) ?_
    refine z_cL (k := 188) (i := (.invokestatic 211)) (as := [.long l9, .long l5]) (rest := [.long l7, .int (fI Y3 (1, 0, 0) 5), .ref (g.2 (23, 0, 0) 0)]) rfl rfl rfl (H _ _ R rfl rfl) (fun x5 h Y4 R H => ?_)
    refine z_cN (k := 81) (i := (.invokevirtual 183)) (as := [.ref (g.2 (23, 0, 0) 0), .int (fI Y3 (1, 0, 0) 5), .long l7, .long x5]) (rest := []) rfl rfl (x_callv rfl rfl (rc_ob R (rc_sb R (rc_1 R) (k := 0) rfl rfl) rfl) rfl rfl) (H _ _ R rfl rfl rfl rfl (rc_sb R (rc_1 R) (k := 0) rfl rfl)) (fun h Y6 R H => ?_)
    refine y_next (pc' := 202) (xst_of (i := (.aload_n 0)) (len := 1) rfl rfl (x_aloadV (xisV_r _) e0)) ?_
    refine y_next (pc' := 203) (xst_of (i := (.aload_n 1)) (len := 1) rfl rfl (x_aloadV (xisV_r _) e1)) ?_
    refine y_next (pc' := 204) (xst_of (i := (.iload_n 2)) (len := 1) rfl rfl (x_ilo e2)) ?_
    refine z_cI (k := 20) (i := (.invokevirtual 111)) (as := [.ref (g.2 (1, 0, 0) 0), .ref (g.2 l1 0), .int l2]) (rest := []) rfl rfl (x_callv rfl rfl (rc_ob R (rc_1 R) rfl) rfl rfl) (H _ _ R rfl rfl rfl ok_l1) (fun x8 h Y7 R H => ?_)
    exact y_ret (xst_of (i := .ireturn) (len := 1) rfl rfl rfl) ⟨_, _, rfl, R, H⟩
  · replace H := H.2 hc
    refine y_next (pc' := 160) (xst_of (i := (.ifCond .ge 5)) (len := 3) rfl rfl (xf_if_ge (t := 162) rfl (fun z => hc ((lg_cmp_ge l5 l7).mp z)))) ?_
    refine y_next (pc' := 161) (xst_of (i := (.iconst 0)) (len := 1) rfl rfl (x_ico (v := 0) (by decide))) ?_
    exact y_ret (xst_of (i := .ireturn) (len := 1) rfl rfl rfl) ⟨_, _, rfl, R, H⟩
theorem l_22_0 {V : xV} {g : xG} {Y : xW} {l1 : xT} {l2 : Int32} {Q : Int32 → xW → Prop} (H : L_77_0 V g Y (23, 0, 0) (fI Y (1, 0, 0) 4) (fun x2 Y1 => L_77_0 V g Y1 (23, 0, 0) (fI Y1 (1, 0, 0) 5) (fun x4 Y3 => L_186_0 V g Y3 x2 x4 (fun x6 Y5 => L_78_0 V g Y5 (23, 0, 0) (fI Y5 (1, 0, 0) 4) (fun x8 Y7 => L_78_0 V g Y7 (23, 0, 0) (fI Y7 (1, 0, 0) 5) (fun x10 Y9 => L_188_0 V g Y9 x8 x10 (fun x12 Y11 => ((x12 < x6) → L_22_122 V g Y11 l1 l2 x6 x12 Q) ∧ (¬ (x12 < x6) → L_84_0 V g Y11 (23, 0, 1) (23, 0, 0) (fun Y13 => L_81_0 V g Y13 (23, 0, 1) (fI Y13 (1, 0, 0) 4) x6 x12 (fun Y14 => L_81_0 V g Y14 (23, 0, 1) (fI Y14 (1, 0, 0) 5) x6 x12 (fun Y15 => L_19_0 V g Y15 l1 (fI Y15 (1, 0, 0) 7) (23, 0, 1) (fun x17 Y16 => ((x17 = 0) → L_22_122 V g Y16 l1 l2 x6 x12 Q) ∧ (¬ (x17 = 0) → Q x17 Y16))))))))))))) : L_22_0 V g Y l1 l2 Q := by
  intro h lv R e0 e1 e2 ok_l1
  refine y_next (pc' := 1) (xst_of (i := (.aload_n 0)) (len := 1) rfl rfl (x_aloadV (xisV_r _) e0)) ?_
  refine z_gO (t := (1, 0, 0)) (k := 0) rfl rfl rfl R (rc_1 R) ?_
  refine y_next (pc' := 5) (xst_of (i := (.aload_n 0)) (len := 1) rfl rfl (x_aloadV (xisV_r _) e0)) ?_
  refine z_gI (t := (1, 0, 0)) (k := 4) rfl rfl rfl R (rc_1 R) ?_
  refine z_cL (k := 77) (i := (.invokevirtual 162)) (as := [.ref (g.2 (23, 0, 0) 0), .int (fI Y (1, 0, 0) 4)]) (rest := []) rfl rfl (x_callv rfl rfl (rc_ob R (rc_sb R (rc_1 R) (k := 0) rfl rfl) rfl) rfl rfl) (H _ _ R rfl rfl (rc_sb R (rc_1 R) (k := 0) rfl rfl)) (fun x2 h Y1 R H => ?_)
  refine y_next (pc' := 12) (xst_of (i := (.aload_n 0)) (len := 1) rfl rfl (x_aloadV (xisV_r _) e0)) ?_
  refine z_gO (t := (1, 0, 0)) (k := 0) rfl rfl rfl R (rc_1 R) ?_
  refine y_next (pc' := 16) (xst_of (i := (.aload_n 0)) (len := 1) rfl rfl (x_aloadV (xisV_r _) e0)) ?_
  refine z_gI (t := (1, 0, 0)) (k := 5) rfl rfl rfl R (rc_1 R) ?_
  refine z_cL (k := 77) (i := (.invokevirtual 162)) (as := [.ref (g.2 (23, 0, 0) 0), .int (fI Y1 (1, 0, 0) 5)]) (rest := [.long x2]) rfl rfl (x_callv rfl rfl (rc_ob R (rc_sb R (rc_1 R) (k := 0) rfl rfl) rfl) rfl rfl) (H _ _ R rfl rfl (rc_sb R (rc_1 R) (k := 0) rfl rfl)) (fun x4 h Y3 R H => ?_)
  refine z_cL (k := 186) (i := (.invokestatic 207)) (as := [.long x2, .long x4]) (rest := []) rfl rfl rfl (H _ _ R rfl rfl) (fun x6 h Y5 R H => ?_)
  refine z_ls (i := (.lstore_n 3)) (len := 1) (pc' := 26) (q := 3) rfl rfl rfl (by decide) (fun lv1 hlv => ?_)
  have e0 := xs2_A hlv e0 rfl rfl
  have e1 := xs2_A hlv e1 rfl rfl
  have e2 := xs2_B hlv e2 rfl rfl
  have e3 := xs2_N hlv
  clear hlv
  refine y_next (pc' := 27) (xst_of (i := (.aload_n 0)) (len := 1) rfl rfl (x_aloadV (xisV_r _) e0)) ?_
  refine z_gO (t := (1, 0, 0)) (k := 0) rfl rfl rfl R (rc_1 R) ?_
  refine y_next (pc' := 31) (xst_of (i := (.aload_n 0)) (len := 1) rfl rfl (x_aloadV (xisV_r _) e0)) ?_
  refine z_gI (t := (1, 0, 0)) (k := 4) rfl rfl rfl R (rc_1 R) ?_
  refine z_cL (k := 78) (i := (.invokevirtual 166)) (as := [.ref (g.2 (23, 0, 0) 0), .int (fI Y5 (1, 0, 0) 4)]) (rest := []) rfl rfl (x_callv rfl rfl (rc_ob R (rc_sb R (rc_1 R) (k := 0) rfl rfl) rfl) rfl rfl) (H _ _ R rfl rfl (rc_sb R (rc_1 R) (k := 0) rfl rfl)) (fun x8 h Y7 R H => ?_)
  refine y_next (pc' := 38) (xst_of (i := (.aload_n 0)) (len := 1) rfl rfl (x_aloadV (xisV_r _) e0)) ?_
  refine z_gO (t := (1, 0, 0)) (k := 0) rfl rfl rfl R (rc_1 R) ?_
  refine y_next (pc' := 42) (xst_of (i := (.aload_n 0)) (len := 1) rfl rfl (x_aloadV (xisV_r _) e0)) ?_
  refine z_gI (t := (1, 0, 0)) (k := 5) rfl rfl rfl R (rc_1 R) ?_
  refine z_cL (k := 78) (i := (.invokevirtual 166)) (as := [.ref (g.2 (23, 0, 0) 0), .int (fI Y7 (1, 0, 0) 5)]) (rest := [.long x8]) rfl rfl (x_callv rfl rfl (rc_ob R (rc_sb R (rc_1 R) (k := 0) rfl rfl) rfl) rfl rfl) (H _ _ R rfl rfl (rc_sb R (rc_1 R) (k := 0) rfl rfl)) (fun x10 h Y9 R H => ?_)
  refine z_cL (k := 188) (i := (.invokestatic 211)) (as := [.long x8, .long x10]) (rest := []) rfl rfl rfl (H _ _ R rfl rfl) (fun x12 h Y11 R H => ?_)
  refine z_ls (i := (.lstore 5)) (len := 2) (pc' := 53) (q := 5) rfl rfl rfl (by decide) (fun lv2 hlv => ?_)
  have e0 := xs2_A hlv e0 rfl rfl
  have e1 := xs2_A hlv e1 rfl rfl
  have e2 := xs2_A hlv e2 rfl rfl
  have e3 := xs2_A hlv e3 rfl rfl
  have e5 := xs2_N hlv
  clear hlv
  refine y_next (pc' := 54) (xst_of (i := (.lload_n 3)) (len := 1) rfl rfl (x_llo e3)) ?_
  refine y_next (pc' := 56) (xst_of (i := (.lload 5)) (len := 2) rfl rfl (x_llo e5)) ?_
  refine y_next (pc' := 57) (xst_of (i := .lcmp) (len := 1) rfl rfl rfl) ?_
  by_cases hc : x12 < x6
  · replace H := H.1 hc
    refine y_next (xst_of (i := (.ifCond .gt 65)) (len := 3) rfl rfl (xt_if_gt (t := 122) rfl ((lg_cmp_gt x6 x12).mpr hc))) ?_
    exact H _ _ R e0 e1 e2 e3 e5 ok_l1
  · replace H := H.2 hc
    refine y_next (pc' := 60) (xst_of (i := (.ifCond .gt 65)) (len := 3) rfl rfl (xf_if_gt (t := 122) rfl (fun z => hc ((lg_cmp_gt x6 x12).mp z)))) ?_
    refine y_next (pc' := 61) (xst_of (i := (.aload_n 0)) (len := 1) rfl rfl (x_aloadV (xisV_r _) e0)) ?_
    refine z_gO (t := (1, 0, 0)) (k := 1) rfl rfl rfl R (rc_1 R) ?_
    refine y_next (pc' := 65) (xst_of (i := (.aload_n 0)) (len := 1) rfl rfl (x_aloadV (xisV_r _) e0)) ?_
    refine z_gO (t := (1, 0, 0)) (k := 0) rfl rfl rfl R (rc_1 R) ?_
    refine z_cN (k := 84) (i := (.invokevirtual 56)) (as := [.ref (g.2 (23, 0, 1) 0), .ref (g.2 (23, 0, 0) 0)]) (rest := []) rfl rfl (x_callv rfl rfl (rc_ob R (rc_sb R (rc_1 R) (k := 1) rfl rfl) rfl) rfl rfl) (H _ _ R rfl rfl (rc_sb R (rc_1 R) (k := 1) rfl rfl) (rc_sb R (rc_1 R) (k := 0) rfl rfl)) (fun h Y13 R H => ?_)
    refine y_next (pc' := 72) (xst_of (i := (.aload_n 0)) (len := 1) rfl rfl (x_aloadV (xisV_r _) e0)) ?_
    refine z_gO (t := (1, 0, 0)) (k := 1) rfl rfl rfl R (rc_1 R) ?_
    refine y_next (pc' := 76) (xst_of (i := (.aload_n 0)) (len := 1) rfl rfl (x_aloadV (xisV_r _) e0)) ?_
    refine z_gI (t := (1, 0, 0)) (k := 4) rfl rfl rfl R (rc_1 R) ?_
    refine y_next (pc' := 80) (xst_of (i := (.lload_n 3)) (len := 1) rfl rfl (x_llo e3)) ?_
    refine y_next (pc' := 82) (xst_of (i := (.lload 5)) (len := 2) rfl rfl (x_llo e5)) ?_
    refine z_cN (k := 81) (i := (.invokevirtual 183)) (as := [.ref (g.2 (23, 0, 1) 0), .int (fI Y13 (1, 0, 0) 4), .long x6, .long x12]) (rest := []) rfl rfl (x_callv rfl rfl (rc_ob R (rc_sb R (rc_1 R) (k := 1) rfl rfl) rfl) rfl rfl) (H _ _ R rfl rfl rfl rfl (rc_sb R (rc_1 R) (k := 1) rfl rfl)) (fun h Y14 R H => ?_)
    refine y_next (pc' := 86) (xst_of (i := (.aload_n 0)) (len := 1) rfl rfl (x_aloadV (xisV_r _) e0)) ?_
    refine z_gO (t := (1, 0, 0)) (k := 1) rfl rfl rfl R (rc_1 R) ?_
    refine y_next (pc' := 90) (xst_of (i := (.aload_n 0)) (len := 1) rfl rfl (x_aloadV (xisV_r _) e0)) ?_
    refine z_gI (t := (1, 0, 0)) (k := 5) rfl rfl rfl R (rc_1 R) ?_
    refine y_next (pc' := 94) (xst_of (i := (.lload_n 3)) (len := 1) rfl rfl (x_llo e3)) ?_
    refine y_next (pc' := 96) (xst_of (i := (.lload 5)) (len := 2) rfl rfl (x_llo e5)) ?_
    refine z_cN (k := 81) (i := (.invokevirtual 183)) (as := [.ref (g.2 (23, 0, 1) 0), .int (fI Y14 (1, 0, 0) 5), .long x6, .long x12]) (rest := []) rfl rfl (x_callv rfl rfl (rc_ob R (rc_sb R (rc_1 R) (k := 1) rfl rfl) rfl) rfl rfl) (H _ _ R rfl rfl rfl rfl (rc_sb R (rc_1 R) (k := 1) rfl rfl)) (fun h Y15 R H => ?_)
    refine y_next (pc' := 100) (xst_of (i := (.aload_n 0)) (len := 1) rfl rfl (x_aloadV (xisV_r _) e0)) ?_
    refine y_next (pc' := 101) (xst_of (i := (.aload_n 1)) (len := 1) rfl rfl (x_aloadV (xisV_r _) e1)) ?_
    refine y_next (pc' := 102) (xst_of (i := (.aload_n 0)) (len := 1) rfl rfl (x_aloadV (xisV_r _) e0)) ?_
    refine z_gI (t := (1, 0, 0)) (k := 7) rfl rfl rfl R (rc_1 R) ?_
    refine y_next (pc' := 106) (xst_of (i := (.aload_n 0)) (len := 1) rfl rfl (x_aloadV (xisV_r _) e0)) ?_
    refine z_gO (t := (1, 0, 0)) (k := 1) rfl rfl rfl R (rc_1 R) ?_
    refine z_cI (k := 19) (i := (.invokevirtual 81)) (as := [.ref (g.2 (1, 0, 0) 0), .ref (g.2 l1 0), .int (fI Y15 (1, 0, 0) 7), .ref (g.2 (23, 0, 1) 0)]) (rest := []) rfl rfl (x_callv rfl rfl (rc_ob R (rc_1 R) rfl) rfl rfl) (H _ _ R rfl rfl rfl rfl ok_l1 (rc_sb R (rc_1 R) (k := 1) rfl rfl)) (fun x17 h Y16 R H => ?_)
    refine z_is (i := (.istore 7)) (len := 2) (pc' := 114) (q := 7) rfl rfl rfl (by decide) (fun lv3 hlv => ?_)
    have e0 := xs1_A hlv e0 rfl rfl
    have e1 := xs1_A hlv e1 rfl rfl
    have e2 := xs1_A hlv e2 rfl rfl
    have e3 := xs1_A hlv e3 rfl rfl
    have e5 := xs1_A hlv e5 rfl rfl
    have e7 := xs1_N hlv
    clear hlv
    refine y_next (pc' := 116) (xst_of (i := (.iload 7)) (len := 2) rfl rfl (x_ilo e7)) ?_
    by_cases hc : x17 = 0
    · replace H := H.1 hc
      refine y_next (xst_of (i := (.ifCond .eq 6)) (len := 3) rfl rfl (xt_if_eq (t := 122) rfl hc)) ?_
      exact H _ _ R e0 e1 e2 e3 e5 ok_l1
    · replace H := H.2 hc
      refine y_next (pc' := 119) (xst_of (i := (.ifCond .eq 6)) (len := 3) rfl rfl (xf_if_eq (t := 122) rfl hc)) ?_
      refine y_next (pc' := 121) (xst_of (i := (.iload 7)) (len := 2) rfl rfl (x_ilo e7)) ?_
      exact y_ret (xst_of (i := .ireturn) (len := 1) rfl rfl rfl) ⟨_, _, rfl, R, H⟩
theorem l_22_122 {V : xV} {g : xG} {Y : xW} {l1 : xT} {l2 : Int32} {l3 : Int64} {l5 : Int64} {Q : Int32 → xW → Prop} (H : (((fI Y (1, 0, 0) 4) = (fI Y (1, 0, 0) 5)) → L_22_143 V g Y l1 l2 l3 l5 0 Q) ∧ (¬ ((fI Y (1, 0, 0) 4) = (fI Y (1, 0, 0) 5)) → L_20_0 V g Y l1 l2 (fun x2 Y1 => L_22_143 V g Y1 l1 l2 l3 l5 x2 Q))) : L_22_122 V g Y l1 l2 l3 l5 Q := by
  intro h lv R e0 e1 e2 e3 e5 ok_l1
  refine y_next (pc' := 123) (xst_of (i := (.aload_n 0)) (len := 1) rfl rfl (x_aloadV (xisV_r _) e0)) ?_
  refine z_gI (t := (1, 0, 0)) (k := 4) rfl rfl rfl R (rc_1 R) ?_
  refine y_next (pc' := 127) (xst_of (i := (.aload_n 0)) (len := 1) rfl rfl (x_aloadV (xisV_r _) e0)) ?_
  refine z_gI (t := (1, 0, 0)) (k := 5) rfl rfl rfl R (rc_1 R) ?_
  by_cases hc : (fI Y (1, 0, 0) 4) = (fI Y (1, 0, 0) 5)
  · replace H := H.1 hc
    refine y_next (pc' := 133) (xst_of (i := (.if_icmp .ne 7)) (len := 3) rfl rfl (xf_icmp_ne (t := 137) rfl (fun z => z hc))) ?_
    refine y_next (pc' := 134) (xst_of (i := (.iconst 0)) (len := 1) rfl rfl (x_ico (v := 0) (by decide))) ?_
    refine y_next (pc' := 143) (xst_of (i := (.goto 9)) (len := 3) rfl rfl rfl) ?_
    exact H _ _ R e0 e1 e2 e3 e5 ok_l1
  · replace H := H.2 hc
    refine y_next (xst_of (i := (.if_icmp .ne 7)) (len := 3) rfl rfl (xt_icmp_ne (t := 137) rfl hc)) ?_
    refine y_next (pc' := 138) (xst_of (i := (.aload_n 0)) (len := 1) rfl rfl (x_aloadV (xisV_r _) e0)) ?_
    refine y_next (pc' := 139) (xst_of (i := (.aload_n 1)) (len := 1) rfl rfl (x_aloadV (xisV_r _) e1)) ?_
    refine y_next (pc' := 140) (xst_of (i := (.iload_n 2)) (len := 1) rfl rfl (x_ilo e2)) ?_
    refine z_cI (k := 20) (i := (.invokevirtual 111)) (as := [.ref (g.2 (1, 0, 0) 0), .ref (g.2 l1 0), .int l2]) (rest := []) rfl rfl (x_callv rfl rfl (rc_ob R (rc_1 R) rfl) rfl rfl) (H _ _ R rfl rfl rfl ok_l1) (fun x2 h Y1 R H => ?_)
    exact H _ _ R e0 e1 e2 e3 e5 ok_l1
theorem l_22_143 {V : xV} {g : xG} {Y : xW} {l1 : xT} {l2 : Int32} {l3 : Int64} {l5 : Int64} {s0 : Int32} {Q : Int32 → xW → Prop} (H : Q s0 Y) : L_22_143 V g Y l1 l2 l3 l5 s0 Q := by
  intro h lv R e0 e1 e2 e3 e5 ok_l1
  exact y_ret (xst_of (i := .ireturn) (len := 1) rfl rfl rfl) ⟨_, _, rfl, R, H⟩
theorem l_23_0 {V : xV} {g : xG} {Y : xW} {l1 : xT} {l2 : Int32} {Q : Int32 → xW → Prop} (H : L_45_0 V g Y l1 (fI Y (1, 0, 0) 7) (fun o2 Y1 => (o2 = none → L_23_24 V g Y1 l1 l2 none Q) ∧ (∀ u3, o2 = some u3 → (((fI Y1 (1, 0, 0) 3) < (fI Y1 (1, 0, 0) 7)) → L_47_0 V g Y1 l1 (fI Y1 (1, 0, 0) 7) (fun o5 Y4 => (o5 = none → L_23_55 V g Y4 l1 l2 (some u3) none 1 Q) ∧ (∀ u6, o5 = some u6 → L_25_0 V g Y4 l1 l2 u6 u3 (fun x8 Y7 => L_23_55 V g Y7 l1 l2 (some u3) (some u6) x8 Q)))) ∧ (¬ ((fI Y1 (1, 0, 0) 3) < (fI Y1 (1, 0, 0) 7)) → L_23_24 V g Y1 l1 l2 (some u3) Q)))) : L_23_0 V g Y l1 l2 Q := by
  intro h lv R e0 e1 e2 ok_l1
  refine y_next (pc' := 1) (xst_of (i := (.aload_n 1)) (len := 1) rfl rfl (x_aloadV (xisV_r _) e1)) ?_
  refine y_next (pc' := 2) (xst_of (i := (.aload_n 0)) (len := 1) rfl rfl (x_aloadV (xisV_r _) e0)) ?_
  refine z_gI (t := (1, 0, 0)) (k := 7) rfl rfl rfl R (rc_1 R) ?_
  refine z_cR (c := 0) (k := 45) (i := (.invokevirtual 225)) (as := [.ref (g.2 l1 0), .int (fI Y (1, 0, 0) 7)]) (rest := []) rfl rfl (x_callv rfl rfl (rc_ob R ok_l1 rfl) rfl rfl) (H _ _ R rfl rfl ok_l1) (fun o2 h Y1 R ok_o2 H => ?_)
  refine z_as (i := (.astore_n 3)) (len := 1) (pc' := 9) (q := 3) rfl rfl rfl (by decide) (rv_V g o2) (fun lv1 hlv => ?_)
  have e0 := xs1_A hlv e0 rfl rfl
  have e1 := xs1_A hlv e1 rfl rfl
  have e2 := xs1_B hlv e2 rfl rfl
  have e3 := xs1_N hlv
  clear hlv
  refine y_next (pc' := 10) (xst_of (i := (.aload_n 3)) (len := 1) rfl rfl (x_aloadV (rv_V g o2) e3)) ?_
  rcases o2 with _ | u3
  · replace H := H.1 rfl
    refine y_next (pc' := 24) (xst_of (i := (.ifnull 14)) (len := 3) rfl rfl rfl) ?_
    exact H _ _ R e0 e1 e2 e3 ok_l1 ok_n
  · replace H := H.2 u3 rfl
    have ok_u3 := ok_o2 u3 rfl
    refine y_next (pc' := 13) (xst_of (i := (.ifnull 14)) (len := 3) rfl rfl rfl) ?_
    refine y_next (pc' := 14) (xst_of (i := (.aload_n 0)) (len := 1) rfl rfl (x_aloadV (xisV_r _) e0)) ?_
    refine z_gI (t := (1, 0, 0)) (k := 7) rfl rfl rfl R (rc_1 R) ?_
    refine y_next (pc' := 18) (xst_of (i := (.aload_n 0)) (len := 1) rfl rfl (x_aloadV (xisV_r _) e0)) ?_
    refine z_gI (t := (1, 0, 0)) (k := 3) rfl rfl rfl R (rc_1 R) ?_
    by_cases hc : (fI Y1 (1, 0, 0) 3) < (fI Y1 (1, 0, 0) 7)
    · replace H := H.1 hc
      refine y_next (xst_of (i := (.if_icmp .gt 6)) (len := 3) rfl rfl (xt_icmp_gt (t := 27) rfl hc)) ?_
      refine y_next (pc' := 28) (xst_of (i := (.aload_n 1)) (len := 1) rfl rfl (x_aloadV (xisV_r _) e1)) ?_
      refine y_next (pc' := 29) (xst_of (i := (.aload_n 0)) (len := 1) rfl rfl (x_aloadV (xisV_r _) e0)) ?_
      refine z_gI (t := (1, 0, 0)) (k := 7) rfl rfl rfl R (rc_1 R) ?_
      refine z_cR (c := 2) (k := 47) (i := (.invokevirtual 229)) (as := [.ref (g.2 l1 0), .int (fI Y1 (1, 0, 0) 7)]) (rest := []) rfl rfl (x_callv rfl rfl (rc_ob R ok_l1 rfl) rfl rfl) (H _ _ R rfl rfl ok_l1) (fun o5 h Y4 R ok_o5 H => ?_)
      refine z_as (i := (.astore 4)) (len := 2) (pc' := 37) (q := 4) rfl rfl rfl (by decide) (rv_V g o5) (fun lv2 hlv => ?_)
      have e0 := xs1_A hlv e0 rfl rfl
      have e1 := xs1_A hlv e1 rfl rfl
      have e2 := xs1_A hlv e2 rfl rfl
      have e3 := xs1_B hlv e3 rfl rfl
      have e4 := xs1_N hlv
      clear hlv
      refine y_next (pc' := 39) (xst_of (i := (.aload 4)) (len := 2) rfl rfl (x_aloadV (rv_V g o5) e4)) ?_
      rcases o5 with _ | u6
      · replace H := H.1 rfl
        refine y_next (pc' := 42) (xst_of (i := (.ifnonnull 7)) (len := 3) rfl rfl rfl) ?_
        refine y_next (pc' := 43) (xst_of (i := (.iconst 1)) (len := 1) rfl rfl (x_ico (v := 1) (by decide))) ?_
        refine y_next (pc' := 55) (xst_of (i := (.goto 12)) (len := 3) rfl rfl rfl) ?_
        exact H _ _ R e0 e1 e2 e3 e4 ok_l1 (ok_s ok_u3) ok_n
      · replace H := H.2 u6 rfl
        have ok_u6 := ok_o5 u6 rfl
        refine y_next (pc' := 46) (xst_of (i := (.ifnonnull 7)) (len := 3) rfl rfl rfl) ?_
        refine y_next (pc' := 47) (xst_of (i := (.aload_n 0)) (len := 1) rfl rfl (x_aloadV (xisV_r _) e0)) ?_
        refine y_next (pc' := 48) (xst_of (i := (.aload_n 1)) (len := 1) rfl rfl (x_aloadV (xisV_r _) e1)) ?_
        refine y_next (pc' := 49) (xst_of (i := (.iload_n 2)) (len := 1) rfl rfl (x_ilo e2)) ?_
        refine y_next (pc' := 51) (xst_of (i := (.aload 4)) (len := 2) rfl rfl (x_aloadV (xisV_r _) e4)) ?_
        refine y_next (pc' := 52) (xst_of (i := (.aload_n 3)) (len := 1) rfl rfl (x_aloadV (xisV_r _) e3)) ?_
        refine z_cI (k := 25) (i := (.invokevirtual 232)) (as := [.ref (g.2 (1, 0, 0) 0), .ref (g.2 l1 0), .int l2, .ref (g.2 u6 0), .ref (g.2 u3 0)]) (rest := []) rfl rfl (x_callv rfl rfl (rc_ob R (rc_1 R) rfl) rfl rfl) (H _ _ R rfl rfl rfl rfl rfl ok_l1 ok_u6 ok_u3) (fun x8 h Y7 R H => ?_)
        exact H _ _ R e0 e1 e2 e3 e4 ok_l1 (ok_s ok_u3) (ok_s ok_u6)
    · replace H := H.2 hc
      refine y_next (pc' := 24) (xst_of (i := (.if_icmp .gt 6)) (len := 3) rfl rfl (xf_icmp_gt (t := 27) rfl hc)) ?_
      exact H _ _ R e0 e1 e2 e3 ok_l1 (ok_s ok_u3)
theorem l_23_24 {V : xV} {g : xG} {Y : xW} {l1 : xT} {l2 : Int32} {l3 : Option xT} {Q : Int32 → xW → Prop} (H : Q 8 Y) : L_23_24 V g Y l1 l2 l3 Q := by
  intro h lv R e0 e1 e2 e3 ok_l1 ok_l3
  refine y_next (pc' := 26) (xst_of (i := (.bipush 8)) (len := 2) rfl rfl (x_bip (v := 8) (by decide))) ?_
  exact y_ret (xst_of (i := .ireturn) (len := 1) rfl rfl rfl) ⟨_, _, rfl, R, H⟩
theorem l_23_55 {V : xV} {g : xG} {Y : xW} {l1 : xT} {l2 : Int32} {l3 : Option xT} {l4 : Option xT} {s0 : Int32} {Q : Int32 → xW → Prop} (H : Q s0 Y) : L_23_55 V g Y l1 l2 l3 l4 s0 Q := by
  intro h lv R e0 e1 e2 e3 e4 ok_l1 ok_l3 ok_l4
  exact y_ret (xst_of (i := .ireturn) (len := 1) rfl rfl rfl) ⟨_, _, rfl, R, H⟩
theorem l_24_0 {V : xV} {g : xG} {Y : xW} {l1 : xT} {l2 : Int32} {Q : Int32 → xW → Prop} (H : L_46_0 V g Y l1 (fI Y (1, 0, 0) 7) (fun o2 Y1 => (o2 = none → L_24_32 V g Y1 l1 l2 none 8 Q) ∧ (∀ u3, o2 = some u3 → ∀ o4, o4 = fR Y1 u3 2 0 → ∀ o5, o5 = fR Y1 u3 1 0 → ∃ u6, o4 = some u6 ∧ ∃ u7, o5 = some u7 ∧ L_25_0 V g Y1 l1 l2 u6 u7 (fun x9 Y8 => L_24_32 V g Y8 l1 l2 (some u3) x9 Q)))) : L_24_0 V g Y l1 l2 Q := by
  intro h lv R e0 e1 e2 ok_l1
  refine y_next (pc' := 1) (xst_of (i := (.aload_n 1)) (len := 1) rfl rfl (x_aloadV (xisV_r _) e1)) ?_
  refine y_next (pc' := 2) (xst_of (i := (.aload_n 0)) (len := 1) rfl rfl (x_aloadV (xisV_r _) e0)) ?_
  refine z_gI (t := (1, 0, 0)) (k := 7) rfl rfl rfl R (rc_1 R) ?_
  refine z_cR (c := 3) (k := 46) (i := (.invokevirtual 236)) (as := [.ref (g.2 l1 0), .int (fI Y (1, 0, 0) 7)]) (rest := []) rfl rfl (x_callv rfl rfl (rc_ob R ok_l1 rfl) rfl rfl) (H _ _ R rfl rfl ok_l1) (fun o2 h Y1 R ok_o2 H => ?_)
  refine z_as (i := (.astore_n 3)) (len := 1) (pc' := 9) (q := 3) rfl rfl rfl (by decide) (rv_V g o2) (fun lv1 hlv => ?_)
  have e0 := xs1_A hlv e0 rfl rfl
  have e1 := xs1_A hlv e1 rfl rfl
  have e2 := xs1_B hlv e2 rfl rfl
  have e3 := xs1_N hlv
  clear hlv
  refine y_next (pc' := 10) (xst_of (i := (.aload_n 3)) (len := 1) rfl rfl (x_aloadV (rv_V g o2) e3)) ?_
  rcases o2 with _ | u3
  · replace H := H.1 rfl
    refine y_next (pc' := 13) (xst_of (i := (.ifnonnull 8)) (len := 3) rfl rfl rfl) ?_
    refine y_next (pc' := 15) (xst_of (i := (.bipush 8)) (len := 2) rfl rfl (x_bip (v := 8) (by decide))) ?_
    refine y_next (pc' := 32) (xst_of (i := (.goto 17)) (len := 3) rfl rfl rfl) ?_
    exact H _ _ R e0 e1 e2 e3 ok_l1 ok_n
  · replace H := H.2 u3 rfl
    have ok_u3 := ok_o2 u3 rfl
    refine y_next (pc' := 18) (xst_of (i := (.ifnonnull 8)) (len := 3) rfl rfl rfl) ?_
    refine y_next (pc' := 19) (xst_of (i := (.aload_n 0)) (len := 1) rfl rfl (x_aloadV (xisV_r _) e0)) ?_
    refine y_next (pc' := 20) (xst_of (i := (.aload_n 1)) (len := 1) rfl rfl (x_aloadV (xisV_r _) e1)) ?_
    refine y_next (pc' := 21) (xst_of (i := (.iload_n 2)) (len := 1) rfl rfl (x_ilo e2)) ?_
    refine y_next (pc' := 22) (xst_of (i := (.aload_n 3)) (len := 1) rfl rfl (x_aloadV (xisV_r _) e3)) ?_
    refine z_gR (t := u3) (k := 2) rfl rfl rfl R ok_u3 rfl (fun o4 ho ok_o4 => ?_)
    replace H := H o4 ho
    clear ho
    refine y_next (pc' := 26) (xst_of (i := (.aload_n 3)) (len := 1) rfl rfl (x_aloadV (xisV_r _) e3)) ?_
    refine z_gR (t := u3) (k := 1) rfl rfl rfl R ok_u3 rfl (fun o5 ho ok_o5 => ?_)
    replace H := H o5 ho
    clear ho
    obtain ⟨u6, hn, H⟩ := H
    subst hn
    have ok_u6 := ok_o4 u6 rfl
    obtain ⟨u7, hn, H⟩ := H
    subst hn
    have ok_u7 := ok_o5 u7 rfl
    refine z_cI (k := 25) (i := (.invokevirtual 232)) (as := [.ref (g.2 (1, 0, 0) 0), .ref (g.2 l1 0), .int l2, .ref (g.2 u6 0), .ref (g.2 u7 0)]) (rest := []) rfl rfl (x_callv rfl rfl (rc_ob R (rc_1 R) rfl) rfl rfl) (H _ _ R rfl rfl rfl rfl rfl ok_l1 ok_u6 ok_u7) (fun x9 h Y8 R H => ?_)
    exact H _ _ R e0 e1 e2 e3 ok_l1 (ok_s ok_u3)
theorem l_24_32 {V : xV} {g : xG} {Y : xW} {l1 : xT} {l2 : Int32} {l3 : Option xT} {s0 : Int32} {Q : Int32 → xW → Prop} (H : Q s0 Y) : L_24_32 V g Y l1 l2 l3 s0 Q := by
  intro h lv R e0 e1 e2 e3 ok_l1 ok_l3
  exact y_ret (xst_of (i := .ireturn) (len := 1) rfl rfl rfl) ⟨_, _, rfl, R, H⟩
theorem l_25_0 {V : xV} {g : xG} {Y : xW} {l1 : xT} {l2 : Int32} {l3 : xT} {l4 : xT} {Q : Int32 → xW → Prop} (H : L_85_0 V g Y (23, 0, 0) (xsub l3 0) (fun x2 Y1 => ((x2 = 0) → Q 9 Y1) ∧ (¬ (x2 = 0) → L_19_0 V g Y1 l1 (l2 + 1) (xsub l4 1) (fun x4 Y3 => Q x4 Y3)))) : L_25_0 V g Y l1 l2 l3 l4 Q := by
  intro h lv R e0 e1 e2 e3 e4 ok_l1 ok_l3 ok_l4
  refine y_next (pc' := 1) (xst_of (i := (.aload_n 0)) (len := 1) rfl rfl (x_aloadV (xisV_r _) e0)) ?_
  refine z_gO (t := (1, 0, 0)) (k := 0) rfl rfl rfl R (rc_1 R) ?_
  refine y_next (pc' := 5) (xst_of (i := (.aload_n 3)) (len := 1) rfl rfl (x_aloadV (xisV_r _) e3)) ?_
  refine z_gO (t := l3) (k := 0) rfl rfl rfl R ok_l3 ?_
  refine z_cI (k := 85) (i := (.invokevirtual 218)) (as := [.ref (g.2 (23, 0, 0) 0), .ref (g.2 (xsub l3 0) 0)]) (rest := []) rfl rfl (x_callv rfl rfl (rc_ob R (rc_sb R (rc_1 R) (k := 0) rfl rfl) rfl) rfl rfl) (H _ _ R rfl rfl (rc_sb R (rc_1 R) (k := 0) rfl rfl) (rc_sb R ok_l3 (k := 0) rfl rfl)) (fun x2 h Y1 R H => ?_)
  by_cases hc : x2 = 0
  · replace H := H.1 hc
    refine y_next (pc' := 14) (xst_of (i := (.ifCond .ne 6)) (len := 3) rfl rfl (xf_if_ne (t := 17) rfl (fun z => z hc))) ?_
    refine y_next (pc' := 16) (xst_of (i := (.bipush 9)) (len := 2) rfl rfl (x_bip (v := 9) (by decide))) ?_
    exact y_ret (xst_of (i := .ireturn) (len := 1) rfl rfl rfl) ⟨_, _, rfl, R, H⟩
  · replace H := H.2 hc
    refine y_next (xst_of (i := (.ifCond .ne 6)) (len := 3) rfl rfl (xt_if_ne (t := 17) rfl hc)) ?_
    refine y_next (pc' := 18) (xst_of (i := (.aload_n 0)) (len := 1) rfl rfl (x_aloadV (xisV_r _) e0)) ?_
    refine y_next (pc' := 19) (xst_of (i := (.aload_n 1)) (len := 1) rfl rfl (x_aloadV (xisV_r _) e1)) ?_
    refine y_next (pc' := 20) (xst_of (i := (.iload_n 2)) (len := 1) rfl rfl (x_ilo e2)) ?_
    refine y_next (pc' := 21) (xst_of (i := (.iconst 1)) (len := 1) rfl rfl (x_ico (v := 1) (by decide))) ?_
    refine y_next (pc' := 22) (xst_of (i := .iadd) (len := 1) rfl rfl rfl) ?_
    refine y_next (pc' := 24) (xst_of (i := (.aload 4)) (len := 2) rfl rfl (x_aloadV (xisV_r _) e4)) ?_
    refine z_gO (t := l4) (k := 1) rfl rfl rfl R ok_l4 ?_
    refine z_cI (k := 19) (i := (.invokevirtual 81)) (as := [.ref (g.2 (1, 0, 0) 0), .ref (g.2 l1 0), .int (l2 + 1), .ref (g.2 (xsub l4 1) 0)]) (rest := []) rfl rfl (x_callv rfl rfl (rc_ob R (rc_1 R) rfl) rfl rfl) (H _ _ R rfl rfl rfl rfl ok_l1 (rc_sb R ok_l4 (k := 1) rfl rfl)) (fun x4 h Y3 R H => ?_)
    exact y_ret (xst_of (i := .ireturn) (len := 1) rfl rfl rfl) ⟨_, _, rfl, R, H⟩
theorem l_26_0 {V : xV} {g : xG} {Y : xW} {l1 : xT} {Q : Int32 → xW → Prop} (H : L_45_0 V g Y l1 (fI Y (1, 0, 0) 3) (fun o2 Y1 => (((fI Y1 (1, 0, 0) 3) = 0) → L_26_20 V g Y1 l1 o2 Q) ∧ (¬ ((fI Y1 (1, 0, 0) 3) = 0) → (o2 = none → L_26_20 V g Y1 l1 none Q) ∧ (∀ u3, o2 = some u3 → L_85_0 V g Y1 (23, 0, 0) (xsub u3 1) (fun x5 Y4 => ((x5 = 0) → L_26_43 V g Y4 l1 (some u3) 10 Q) ∧ (¬ (x5 = 0) → L_26_43 V g Y4 l1 (some u3) 0 Q)))))) : L_26_0 V g Y l1 Q := by
  intro h lv R e0 e1 ok_l1
  refine y_next (pc' := 1) (xst_of (i := (.aload_n 1)) (len := 1) rfl rfl (x_aloadV (xisV_r _) e1)) ?_
  refine y_next (pc' := 2) (xst_of (i := (.aload_n 0)) (len := 1) rfl rfl (x_aloadV (xisV_r _) e0)) ?_
  refine z_gI (t := (1, 0, 0)) (k := 3) rfl rfl rfl R (rc_1 R) ?_
  refine z_cR (c := 0) (k := 45) (i := (.invokevirtual 225)) (as := [.ref (g.2 l1 0), .int (fI Y (1, 0, 0) 3)]) (rest := []) rfl rfl (x_callv rfl rfl (rc_ob R ok_l1 rfl) rfl rfl) (H _ _ R rfl rfl ok_l1) (fun o2 h Y1 R ok_o2 H => ?_)
  refine z_as (i := (.astore_n 2)) (len := 1) (pc' := 9) (q := 2) rfl rfl rfl (by decide) (rv_V g o2) (fun lv1 hlv => ?_)
  have e0 := xs1_A hlv e0 rfl rfl
  have e1 := xs1_B hlv e1 rfl rfl
  have e2 := xs1_N hlv
  clear hlv
  refine y_next (pc' := 10) (xst_of (i := (.aload_n 0)) (len := 1) rfl rfl (x_aloadV (xisV_r _) e0)) ?_
  refine z_gI (t := (1, 0, 0)) (k := 3) rfl rfl rfl R (rc_1 R) ?_
  by_cases hc : (fI Y1 (1, 0, 0) 3) = 0
  · replace H := H.1 hc
    refine y_next (xst_of (i := (.ifCond .eq 7)) (len := 3) rfl rfl (xt_if_eq (t := 20) rfl hc)) ?_
    exact H _ _ R e0 e1 e2 ok_l1 ok_o2
  · replace H := H.2 hc
    refine y_next (pc' := 16) (xst_of (i := (.ifCond .eq 7)) (len := 3) rfl rfl (xf_if_eq (t := 20) rfl hc)) ?_
    refine y_next (pc' := 17) (xst_of (i := (.aload_n 2)) (len := 1) rfl rfl (x_aloadV (rv_V g o2) e2)) ?_
    rcases o2 with _ | u3
    · replace H := H.1 rfl
      refine y_next (pc' := 20) (xst_of (i := (.ifnonnull 6)) (len := 3) rfl rfl rfl) ?_
      exact H _ _ R e0 e1 e2 ok_l1 ok_n
    · replace H := H.2 u3 rfl
      have ok_u3 := ok_o2 u3 rfl
      refine y_next (pc' := 23) (xst_of (i := (.ifnonnull 6)) (len := 3) rfl rfl rfl) ?_
      refine y_next (pc' := 24) (xst_of (i := (.aload_n 0)) (len := 1) rfl rfl (x_aloadV (xisV_r _) e0)) ?_
      refine z_gO (t := (1, 0, 0)) (k := 0) rfl rfl rfl R (rc_1 R) ?_
      refine y_next (pc' := 28) (xst_of (i := (.aload_n 2)) (len := 1) rfl rfl (x_aloadV (xisV_r _) e2)) ?_
      refine z_gO (t := u3) (k := 1) rfl rfl rfl R ok_u3 ?_
      refine z_cI (k := 85) (i := (.invokevirtual 218)) (as := [.ref (g.2 (23, 0, 0) 0), .ref (g.2 (xsub u3 1) 0)]) (rest := []) rfl rfl (x_callv rfl rfl (rc_ob R (rc_sb R (rc_1 R) (k := 0) rfl rfl) rfl) rfl rfl) (H _ _ R rfl rfl (rc_sb R (rc_1 R) (k := 0) rfl rfl) (rc_sb R ok_u3 (k := 1) rfl rfl)) (fun x5 h Y4 R H => ?_)
      by_cases hc : x5 = 0
      · replace H := H.1 hc
        refine y_next (xst_of (i := (.ifCond .eq 7)) (len := 3) rfl rfl (xt_if_eq (t := 41) rfl hc)) ?_
        refine y_next (pc' := 43) (xst_of (i := (.bipush 10)) (len := 2) rfl rfl (x_bip (v := 10) (by decide))) ?_
        exact H _ _ R e0 e1 e2 ok_l1 (ok_s ok_u3)
      · replace H := H.2 hc
        refine y_next (pc' := 37) (xst_of (i := (.ifCond .eq 7)) (len := 3) rfl rfl (xf_if_eq (t := 41) rfl hc)) ?_
        refine y_next (pc' := 38) (xst_of (i := (.iconst 0)) (len := 1) rfl rfl (x_ico (v := 0) (by decide))) ?_
        refine y_next (pc' := 43) (xst_of (i := (.goto 5)) (len := 3) rfl rfl rfl) ?_
        exact H _ _ R e0 e1 e2 ok_l1 (ok_s ok_u3)
theorem l_26_20 {V : xV} {g : xG} {Y : xW} {l1 : xT} {l2 : Option xT} {Q : Int32 → xW → Prop} (H : Q 11 Y) : L_26_20 V g Y l1 l2 Q := by
  intro h lv R e0 e1 e2 ok_l1 ok_l2
  refine y_next (pc' := 22) (xst_of (i := (.bipush 11)) (len := 2) rfl rfl (x_bip (v := 11) (by decide))) ?_
  exact y_ret (xst_of (i := .ireturn) (len := 1) rfl rfl rfl) ⟨_, _, rfl, R, H⟩
theorem l_26_43 {V : xV} {g : xG} {Y : xW} {l1 : xT} {l2 : Option xT} {s0 : Int32} {Q : Int32 → xW → Prop} (H : Q s0 Y) : L_26_43 V g Y l1 l2 s0 Q := by
  intro h lv R e0 e1 e2 ok_l1 ok_l2
  exact y_ret (xst_of (i := .ireturn) (len := 1) rfl rfl rfl) ⟨_, _, rfl, R, H⟩
