theorem l_30_0 {V : xV} {g : xG} {Y : xW} {l0 : xT} {Q : Int32 → xW → Prop} (H : Q ((1000 * (fI Y l0 5)) + (fI Y l0 6)) Y) : L_30_0 V g Y l0 Q := by
  intro h lv R e0 ok_l0
  refine y_next (pc' := 3) (xst_of (i := (.sipush 1000)) (len := 3) rfl rfl (x_sip (v := 1000) (by decide))) ?_
  refine y_next (pc' := 4) (xst_of (i := (.aload_n 0)) (len := 1) rfl rfl (x_aloadV (xisV_r _) e0)) ?_
  refine z_gI (t := l0) (k := 5) rfl rfl rfl R ok_l0 ?_
  refine y_next (pc' := 8) (xst_of (i := .imul) (len := 1) rfl rfl rfl) ?_
  refine y_next (pc' := 9) (xst_of (i := (.aload_n 0)) (len := 1) rfl rfl (x_aloadV (xisV_r _) e0)) ?_
  refine z_gI (t := l0) (k := 6) rfl rfl rfl R ok_l0 ?_
  refine y_next (pc' := 13) (xst_of (i := .iadd) (len := 1) rfl rfl rfl) ?_
  exact y_ret (xst_of (i := .ireturn) (len := 1) rfl rfl rfl) ⟨_, _, rfl, R, H⟩
theorem l_31_0 {V : xV} {g : xG} {Y : xW} {l0 : xT} {l1 : Int32} {Q : Int32 → xW → Prop} (H : (((fI Y l0 8) = 0) → ((l1 < 0) → L_31_23 V g Y l0 l1 Q) ∧ (¬ (l1 < 0) → (((fI Y l0 1) ≤ l1) → L_31_23 V g Y l0 l1 Q) ∧ (¬ ((fI Y l0 1) ≤ l1) → L_31_24 V g Y l0 l1 1 Q))) ∧ (¬ ((fI Y l0 8) = 0) → L_31_23 V g Y l0 l1 Q)) : L_31_0 V g Y l0 l1 Q := by
  intro h lv R e0 e1 ok_l0
  refine y_next (pc' := 1) (xst_of (i := (.aload_n 0)) (len := 1) rfl rfl (x_aloadV (xisV_r _) e0)) ?_
  refine z_gI (t := l0) (k := 8) rfl rfl rfl R ok_l0 ?_
  by_cases hc : (fI Y l0 8) = 0
  · replace H := H.1 hc
    refine y_next (pc' := 7) (xst_of (i := (.ifCond .ne 19)) (len := 3) rfl rfl (xf_if_ne (t := 23) rfl (fun z => z hc))) ?_
    refine y_next (pc' := 8) (xst_of (i := (.iload_n 1)) (len := 1) rfl rfl (x_ilo e1)) ?_
    by_cases hc : l1 < 0
    · replace H := H.1 hc
      refine y_next (xst_of (i := (.ifCond .lt 15)) (len := 3) rfl rfl (xt_if_lt (t := 23) rfl hc)) ?_
      exact H _ _ R e0 e1 ok_l0
    · replace H := H.2 hc
      refine y_next (pc' := 11) (xst_of (i := (.ifCond .lt 15)) (len := 3) rfl rfl (xf_if_lt (t := 23) rfl hc)) ?_
      refine y_next (pc' := 12) (xst_of (i := (.iload_n 1)) (len := 1) rfl rfl (x_ilo e1)) ?_
      refine y_next (pc' := 13) (xst_of (i := (.aload_n 0)) (len := 1) rfl rfl (x_aloadV (xisV_r _) e0)) ?_
      refine z_gI (t := l0) (k := 1) rfl rfl rfl R ok_l0 ?_
      by_cases hc : (fI Y l0 1) ≤ l1
      · replace H := H.1 hc
        refine y_next (xst_of (i := (.if_icmp .ge 7)) (len := 3) rfl rfl (xt_icmp_ge (t := 23) rfl hc)) ?_
        exact H _ _ R e0 e1 ok_l0
      · replace H := H.2 hc
        refine y_next (pc' := 19) (xst_of (i := (.if_icmp .ge 7)) (len := 3) rfl rfl (xf_icmp_ge (t := 23) rfl hc)) ?_
        refine y_next (pc' := 20) (xst_of (i := (.iconst 1)) (len := 1) rfl rfl (x_ico (v := 1) (by decide))) ?_
        refine y_next (pc' := 24) (xst_of (i := (.goto 4)) (len := 3) rfl rfl rfl) ?_
        exact H _ _ R e0 e1 ok_l0
  · replace H := H.2 hc
    refine y_next (xst_of (i := (.ifCond .ne 19)) (len := 3) rfl rfl (xt_if_ne (t := 23) rfl hc)) ?_
    exact H _ _ R e0 e1 ok_l0
theorem l_31_23 {V : xV} {g : xG} {Y : xW} {l0 : xT} {l1 : Int32} {Q : Int32 → xW → Prop} (H : L_31_24 V g Y l0 l1 0 Q) : L_31_23 V g Y l0 l1 Q := by
  intro h lv R e0 e1 ok_l0
  refine y_next (pc' := 24) (xst_of (i := (.iconst 0)) (len := 1) rfl rfl (x_ico (v := 0) (by decide))) ?_
  exact H _ _ R e0 e1 ok_l0
theorem l_31_24 {V : xV} {g : xG} {Y : xW} {l0 : xT} {l1 : Int32} {s0 : Int32} {Q : Int32 → xW → Prop} (H : (s0 = 0 ∨ s0 = 1) ∧ Q s0 Y) : L_31_24 V g Y l0 l1 s0 Q := by
  intro h lv R e0 e1 ok_l0
  exact y_ret (xst_of (i := .ireturn) (len := 1) rfl rfl (x_zret rfl H.1)) ⟨_, _, rfl, R, H.2⟩
theorem l_32_0 {V : xV} {g : xG} {Y : xW} {l0 : xT} {l1 : xT} {Q : Int32 → xW → Prop} (H : L_43_0 V g Y l1 (fI Y l0 6) (fun x2 Y1 => L_117_0 V g Y1 x2 (fun x4 Y3 => ((x4 = 0) → L_119_0 V g Y3 x2 (fun x6 Y5 => vp_in x6 8 ∧ ∀ Y7, Y7 = uI Y5 l0 10 (fA Y5 l0 2 (Int32.toNatClampNeg x6)) → L_32_72 V g Y7 l0 l1 x2 x4 Q)) ∧ (¬ (x4 = 0) → ((15 ≤ x4) → L_38_0 V g Y3 l0 l1 x4 x2 (fun Y8 => L_32_72 V g Y8 l0 l1 x2 x4 Q)) ∧ (¬ (15 ≤ x4) → L_34_0 V g Y3 l0 x4 x2 (fun Y9 => ∀ Y10, Y10 = uI Y9 l0 6 ((fI Y9 l0 6) + 1) → L_32_72 V g Y10 l0 l1 x2 x4 Q)))))) : L_32_0 V g Y l0 l1 Q := by
  intro h lv R e0 e1 e2 ok_l0 ok_l1
  refine y_next (pc' := 1) (xst_of (i := (.aload_n 1)) (len := 1) rfl rfl (x_aloadV (xisV_r _) e1)) ?_
  refine y_next (pc' := 2) (xst_of (i := (.aload_n 0)) (len := 1) rfl rfl (x_aloadV (xisV_r _) e0)) ?_
  refine z_gI (t := l0) (k := 6) rfl rfl rfl R ok_l0 ?_
  refine z_cI (k := 43) (i := (.invokevirtual 37)) (as := [.ref (g.2 l1 0), .int (fI Y l0 6)]) (rest := []) rfl rfl (x_callv rfl rfl (rc_ob R ok_l1 rfl) rfl rfl) (H _ _ R rfl rfl ok_l1) (fun x2 h Y1 R H => ?_)
  refine z_is (i := (.istore_n 3)) (len := 1) (pc' := 9) (q := 3) rfl rfl rfl (by decide) (fun lv1 hlv => ?_)
  have e0 := xs1_A hlv e0 rfl rfl
  have e1 := xs1_A hlv e1 rfl rfl
  have e2 := xs1_B hlv e2 rfl rfl
  have e3 := xs1_N hlv
  clear hlv
  refine y_next (pc' := 10) (xst_of (i := (.iload_n 3)) (len := 1) rfl rfl (x_ilo e3)) ?_
  refine z_cI (k := 117) (i := (.invokestatic 43)) (as := [.int x2]) (rest := []) rfl rfl rfl (H _ _ R rfl) (fun x4 h Y3 R H => ?_)
  refine z_is (i := (.istore 4)) (len := 2) (pc' := 15) (q := 4) rfl rfl rfl (by decide) (fun lv2 hlv => ?_)
  have e0 := xs1_A hlv e0 rfl rfl
  have e1 := xs1_A hlv e1 rfl rfl
  have e2 := xs1_A hlv e2 rfl rfl
  have e3 := xs1_B hlv e3 rfl rfl
  have e4 := xs1_N hlv
  clear hlv
  refine y_next (pc' := 17) (xst_of (i := (.iload 4)) (len := 2) rfl rfl (x_ilo e4)) ?_
  by_cases hc : x4 = 0
  · replace H := H.1 hc
    refine y_next (pc' := 20) (xst_of (i := (.ifCond .ne 19)) (len := 3) rfl rfl (xf_if_ne (t := 36) rfl (fun z => z hc))) ?_
    refine y_next (pc' := 21) (xst_of (i := (.aload_n 0)) (len := 1) rfl rfl (x_aloadV (xisV_r _) e0)) ?_
    refine y_next (pc' := 22) (xst_of (i := (.aload_n 0)) (len := 1) rfl rfl (x_aloadV (xisV_r _) e0)) ?_
    refine z_gA (t := l0) (k := 2) rfl rfl rfl R ok_l0 ?_
    refine y_next (pc' := 26) (xst_of (i := (.iload_n 3)) (len := 1) rfl rfl (x_ilo e3)) ?_
    refine z_cI (k := 119) (i := (.invokestatic 46)) (as := [.int x2]) (rest := [.ref (g.2 l0 3), .ref (g.2 l0 0)]) rfl rfl rfl (H _ _ R rfl) (fun x6 h Y5 R H => ?_)
    refine z_aI (t := l0) (k := 2) (n := 8) (i := x6) rfl rfl R ok_l0 H.1 ?_
    replace H := H.2
    refine z_pI (t := l0) (k := 10) rfl rfl rfl rfl rfl R ok_l0 (fun h Y7 hY R => ?_)
    replace H := H Y7 hY
    clear hY
    refine y_next (pc' := 72) (xst_of (i := (.goto 39)) (len := 3) rfl rfl rfl) ?_
    exact H _ _ R e0 e1 e2 e3 e4 ok_l0 ok_l1
  · replace H := H.2 hc
    refine y_next (xst_of (i := (.ifCond .ne 19)) (len := 3) rfl rfl (xt_if_ne (t := 36) rfl hc)) ?_
    refine y_next (pc' := 38) (xst_of (i := (.iload 4)) (len := 2) rfl rfl (x_ilo e4)) ?_
    refine y_next (pc' := 40) (xst_of (i := (.bipush 15)) (len := 2) rfl rfl (x_bip (v := 15) (by decide))) ?_
    by_cases hc : 15 ≤ x4
    · replace H := H.1 hc
      refine y_next (xst_of (i := (.if_icmp .ge 24)) (len := 3) rfl rfl (xt_icmp_ge (t := 64) rfl hc)) ?_
      refine y_next (pc' := 65) (xst_of (i := (.aload_n 0)) (len := 1) rfl rfl (x_aloadV (xisV_r _) e0)) ?_
      refine y_next (pc' := 66) (xst_of (i := (.aload_n 1)) (len := 1) rfl rfl (x_aloadV (xisV_r _) e1)) ?_
      refine y_next (pc' := 68) (xst_of (i := (.iload 4)) (len := 2) rfl rfl (x_ilo e4)) ?_
      refine y_next (pc' := 69) (xst_of (i := (.iload_n 3)) (len := 1) rfl rfl (x_ilo e3)) ?_
      refine z_cN (k := 38) (i := (.invokevirtual 56)) (as := [.ref (g.2 l0 0), .ref (g.2 l1 0), .int x4, .int x2]) (rest := []) rfl rfl (x_callv rfl rfl (rc_ob R ok_l0 rfl) rfl rfl) (H _ _ R rfl rfl rfl rfl ok_l0 ok_l1) (fun h Y8 R H => ?_)
      exact H _ _ R e0 e1 e2 e3 e4 ok_l0 ok_l1
    · replace H := H.2 hc
      refine y_next (pc' := 43) (xst_of (i := (.if_icmp .ge 24)) (len := 3) rfl rfl (xf_icmp_ge (t := 64) rfl hc)) ?_
      refine y_next (pc' := 44) (xst_of (i := (.aload_n 0)) (len := 1) rfl rfl (x_aloadV (xisV_r _) e0)) ?_
      refine y_next (pc' := 46) (xst_of (i := (.iload 4)) (len := 2) rfl rfl (x_ilo e4)) ?_
      refine y_next (pc' := 47) (xst_of (i := (.iload_n 3)) (len := 1) rfl rfl (x_ilo e3)) ?_
      refine y_next (pc' := 48) (xst_of (i := (.aload_n 2)) (len := 1) rfl rfl (x_aloadV (xisV_r _) e2)) ?_
      refine z_cN (k := 34) (i := (.invokevirtual 52)) (as := [.ref (g.2 l0 0), .int x4, .int x2, .ref (g.2 (7, 0, 0) 0)]) (rest := []) rfl rfl (x_callv rfl rfl (rc_ob R ok_l0 rfl) rfl rfl) (H _ _ R rfl rfl rfl rfl ok_l0) (fun h Y9 R H => ?_)
      refine y_next (pc' := 52) (xst_of (i := (.aload_n 0)) (len := 1) rfl rfl (x_aloadV (xisV_r _) e0)) ?_
      refine y_next (pc' := 53) (xst_of (i := .dup) (len := 1) rfl rfl (x_dup rfl)) ?_
      refine z_gI (t := l0) (k := 6) rfl rfl rfl R ok_l0 ?_
      refine y_next (pc' := 57) (xst_of (i := (.iconst 1)) (len := 1) rfl rfl (x_ico (v := 1) (by decide))) ?_
      refine y_next (pc' := 58) (xst_of (i := .iadd) (len := 1) rfl rfl rfl) ?_
      refine z_pI (t := l0) (k := 6) rfl rfl rfl rfl rfl R ok_l0 (fun h Y10 hY R => ?_)
      replace H := H Y10 hY
      clear hY
      refine y_next (pc' := 72) (xst_of (i := (.goto 11)) (len := 3) rfl rfl rfl) ?_
      exact H _ _ R e0 e1 e2 e3 e4 ok_l0 ok_l1
theorem l_32_72 {V : xV} {g : xG} {Y : xW} {l0 : xT} {l1 : xT} {l3 : Int32} {l4 : Int32} {Q : Int32 → xW → Prop} (H : ∀ Y1, Y1 = uI Y l0 9 ((fI Y l0 9) + 1) → L_33_0 V g Y1 l0 (fun Y2 => Q l4 Y2)) : L_32_72 V g Y l0 l1 l3 l4 Q := by
  intro h lv R e0 e1 e2 e3 e4 ok_l0 ok_l1
  refine y_next (pc' := 73) (xst_of (i := (.aload_n 0)) (len := 1) rfl rfl (x_aloadV (xisV_r _) e0)) ?_
  refine y_next (pc' := 74) (xst_of (i := .dup) (len := 1) rfl rfl (x_dup rfl)) ?_
  refine z_gI (t := l0) (k := 9) rfl rfl rfl R ok_l0 ?_
  refine y_next (pc' := 78) (xst_of (i := (.iconst 1)) (len := 1) rfl rfl (x_ico (v := 1) (by decide))) ?_
  refine y_next (pc' := 79) (xst_of (i := .iadd) (len := 1) rfl rfl rfl) ?_
  refine z_pI (t := l0) (k := 9) rfl rfl rfl rfl rfl R ok_l0 (fun h Y1 hY R => ?_)
  replace H := H Y1 hY
  clear hY
  refine y_next (pc' := 83) (xst_of (i := (.aload_n 0)) (len := 1) rfl rfl (x_aloadV (xisV_r _) e0)) ?_
  refine z_cN (k := 33) (i := (.invokevirtual 63)) (as := [.ref (g.2 l0 0)]) (rest := []) rfl rfl (x_callv rfl rfl (rc_ob R ok_l0 rfl) rfl rfl) (H _ _ R rfl ok_l0) (fun h Y2 R H => ?_)
  refine y_next (pc' := 88) (xst_of (i := (.iload 4)) (len := 2) rfl rfl (x_ilo e4)) ?_
  exact y_ret (xst_of (i := .ireturn) (len := 1) rfl rfl rfl) ⟨_, _, rfl, R, H⟩
theorem l_33_0 {V : xV} {g : xG} {Y : xW} {l0 : xT} {Q : xW → Prop} (H : L_30_0 V g Y l0 (fun x2 Y1 => ∀ Y3, Y3 = uL Y1 l0 11 0 ((31 * (fL Y l0 11 0)) + (Int32.toInt64 x2)) → L_33_20 V g Y3 l0 0 Q)) : L_33_0 V g Y l0 Q := by
  intro h lv R e0 ok_l0
  refine y_next (pc' := 1) (xst_of (i := (.aload_n 0)) (len := 1) rfl rfl (x_aloadV (xisV_r _) e0)) ?_
  refine y_next (pc' := 4) (xst_of (i := (.ldc2_w 66)) (len := 3) rfl rfl rfl) ?_
  refine y_next (pc' := 5) (xst_of (i := (.aload_n 0)) (len := 1) rfl rfl (x_aloadV (xisV_r _) e0)) ?_
  refine z_gJ (t := l0) (k := 11) rfl rfl rfl R ok_l0 ?_
  refine y_next (pc' := 9) (xst_of (i := .lmul) (len := 1) rfl rfl rfl) ?_
  refine y_next (pc' := 10) (xst_of (i := (.aload_n 0)) (len := 1) rfl rfl (x_aloadV (xisV_r _) e0)) ?_
  refine z_cI (k := 30) (i := (.invokevirtual 72)) (as := [.ref (g.2 l0 0)]) (rest := [.long (31 * (fL Y l0 11 0)), .ref (g.2 l0 0)]) rfl rfl (x_callv rfl rfl (rc_ob R ok_l0 rfl) rfl rfl) (H _ _ R rfl ok_l0) (fun x2 h Y1 R H => ?_)
  refine y_next (pc' := 14) (xst_of (i := .i2l) (len := 1) rfl rfl rfl) ?_
  refine y_next (pc' := 15) (xst_of (i := .ladd) (len := 1) rfl rfl rfl) ?_
  refine z_pJ (t := l0) (k := 11) rfl rfl rfl rfl rfl rfl R ok_l0 (fun h Y3 hY R => ?_)
  replace H := H Y3 hY
  clear hY
  refine y_next (pc' := 19) (xst_of (i := (.iconst 0)) (len := 1) rfl rfl (x_ico (v := 0) (by decide))) ?_
  refine z_is (i := (.istore_n 1)) (len := 1) (pc' := 20) (q := 1) rfl rfl rfl (by decide) (fun lv1 hlv => ?_)
  have e0 := xs1_B hlv e0 rfl rfl
  have e1 := xs1_N hlv
  clear hlv
  exact H _ _ R e0 e1 ok_l0
theorem l_33_20 {V : xV} {g : xG} {Y : xW} {l0 : xT} {l1 : Int32} {Q : xW → Prop} (H : ((8 ≤ l1) → Q Y) ∧ (¬ (8 ≤ l1) → vp_in l1 8 ∧ ∀ Y1, Y1 = uL Y l0 11 0 ((31 * (fL Y l0 11 0)) + (Int32.toInt64 (fA Y l0 2 (Int32.toNatClampNeg l1)))) → L_33_20 V g Y1 l0 (l1 + 1) Q)) : L_33_20 V g Y l0 l1 Q := by
  intro h lv R e0 e1 ok_l0
  refine y_next (pc' := 21) (xst_of (i := (.iload_n 1)) (len := 1) rfl rfl (x_ilo e1)) ?_
  refine y_next (pc' := 23) (xst_of (i := (.bipush 8)) (len := 2) rfl rfl (x_bip (v := 8) (by decide))) ?_
  by_cases hc : 8 ≤ l1
  · replace H := H.1 hc
    refine y_next (xst_of (i := (.if_icmp .ge 29)) (len := 3) rfl rfl (xt_icmp_ge (t := 52) rfl hc)) ?_
    exact y_ret (xst_of (i := .return_) (len := 1) rfl rfl rfl) ⟨_, rfl, R, H⟩
  · replace H := H.2 hc
    refine y_next (pc' := 26) (xst_of (i := (.if_icmp .ge 29)) (len := 3) rfl rfl (xf_icmp_ge (t := 52) rfl hc)) ?_
    refine y_next (pc' := 27) (xst_of (i := (.aload_n 0)) (len := 1) rfl rfl (x_aloadV (xisV_r _) e0)) ?_
    refine y_next (pc' := 30) (xst_of (i := (.ldc2_w 66)) (len := 3) rfl rfl rfl) ?_
    refine y_next (pc' := 31) (xst_of (i := (.aload_n 0)) (len := 1) rfl rfl (x_aloadV (xisV_r _) e0)) ?_
    refine z_gJ (t := l0) (k := 11) rfl rfl rfl R ok_l0 ?_
    refine y_next (pc' := 35) (xst_of (i := .lmul) (len := 1) rfl rfl rfl) ?_
    refine y_next (pc' := 36) (xst_of (i := (.aload_n 0)) (len := 1) rfl rfl (x_aloadV (xisV_r _) e0)) ?_
    refine z_gA (t := l0) (k := 2) rfl rfl rfl R ok_l0 ?_
    refine y_next (pc' := 40) (xst_of (i := (.iload_n 1)) (len := 1) rfl rfl (x_ilo e1)) ?_
    refine z_aI (t := l0) (k := 2) (n := 8) (i := l1) rfl rfl R ok_l0 H.1 ?_
    replace H := H.2
    refine y_next (pc' := 42) (xst_of (i := .i2l) (len := 1) rfl rfl rfl) ?_
    refine y_next (pc' := 43) (xst_of (i := .ladd) (len := 1) rfl rfl rfl) ?_
    refine z_pJ (t := l0) (k := 11) rfl rfl rfl rfl rfl rfl R ok_l0 (fun h Y1 hY R => ?_)
    replace H := H Y1 hY
    clear hY
    refine z_in (q := 1) (n := 1) (v := 1) rfl e1 (by decide) (by decide) (fun lv1 hlv => ?_)
    have e0 := xs1_B hlv e0 rfl rfl
    have e1 := xs1_N hlv
    clear hlv
    refine y_next (pc' := 20) (xst_of (i := (.goto (-29))) (len := 3) rfl rfl rfl) ?_
    exact H _ _ R e0 e1 ok_l0
theorem l_34_0 {V : xV} {g : xG} {Y : xW} {l0 : xT} {l1 : Int32} {l2 : Int32} {Q : xW → Prop} (H : L_118_0 V g Y l2 (fun x2 Y1 => L_119_0 V g Y1 l2 (fun x4 Y3 => vp_in x4 8 ∧ ((l1 = 1 → Q Y3) ∧ (l1 = 2 → L_122_0 V g Y3 l2 (fun x6 Y5 => vp_in x2 8 ∧ ∀ Y7, Y7 = uA Y5 l0 2 (Int32.toNatClampNeg x2) x6 → Q Y7)) ∧ (l1 = 3 → vp_in x2 8 ∧ ∀ Y8, Y8 = uA Y3 l0 2 (Int32.toNatClampNeg x2) (fA Y3 l0 2 (Int32.toNatClampNeg x4)) → Q Y8) ∧ (l1 = 4 → L_34_208 V g Y3 l0 l1 l2 x2 (fA Y3 l0 2 (Int32.toNatClampNeg x4)) Q) ∧ (l1 = 5 → L_34_208 V g Y3 l0 l1 l2 x2 (fA Y3 l0 2 (Int32.toNatClampNeg x4)) Q) ∧ (l1 = 6 → L_34_208 V g Y3 l0 l1 l2 x2 (fA Y3 l0 2 (Int32.toNatClampNeg x4)) Q) ∧ (l1 = 7 → L_34_208 V g Y3 l0 l1 l2 x2 (fA Y3 l0 2 (Int32.toNatClampNeg x4)) Q) ∧ (l1 = 8 → L_34_208 V g Y3 l0 l1 l2 x2 (fA Y3 l0 2 (Int32.toNatClampNeg x4)) Q) ∧ (l1 = 9 → L_122_0 V g Y3 l2 (fun x10 Y9 => vp_in x2 8 ∧ ∀ Y11, Y11 = uA Y9 l0 2 (Int32.toNatClampNeg x2) ((fA Y3 l0 2 (Int32.toNatClampNeg x4)) + x10) → Q Y11)) ∧ (l1 = 10 → L_121_0 V g Y3 l2 (fun x13 Y12 => vp_in x2 8 ∧ ∀ Y14, Y14 = uA Y12 l0 2 (Int32.toNatClampNeg x2) ((fA Y3 l0 2 (Int32.toNatClampNeg x4)) &&& x13) → Q Y14)) ∧ (l1 = 11 → L_121_0 V g Y3 l2 (fun x16 Y15 => vp_in x2 8 ∧ ∀ Y17, Y17 = uA Y15 l0 2 (Int32.toNatClampNeg x2) ((fA Y3 l0 2 (Int32.toNatClampNeg x4)) >>> (x16 &&& 31)) → Q Y17)) ∧ (l1 = 12 → L_121_0 V g Y3 l2 (fun x19 Y18 => vp_in x2 8 ∧ ∀ Y20, Y20 = uA Y18 l0 2 (Int32.toNatClampNeg x2) x19 → Q Y20)) ∧ (l1 = 13 → L_122_0 V g Y3 l2 (fun x22 Y21 => L_36_0 V g Y21 l0 ((fA Y3 l0 2 (Int32.toNatClampNeg x4)) + x22) (fun x24 Y23 => vp_in x2 8 ∧ ∀ Y25, Y25 = uA Y23 l0 2 (Int32.toNatClampNeg x2) x24 → Q Y25))) ∧ (l1 = 14 → L_122_0 V g Y3 l2 (fun x27 Y26 => vp_in x2 8 ∧ L_37_0 V g Y26 l0 ((fA Y3 l0 2 (Int32.toNatClampNeg x4)) + x27) (fA Y26 l0 2 (Int32.toNatClampNeg x2)) (fun Y28 => Q Y28)))) ∧ ((Int32.toInt l1 < 1 ∨ 14 < Int32.toInt l1) → L_34_208 V g Y3 l0 l1 l2 x2 (fA Y3 l0 2 (Int32.toNatClampNeg x4)) Q)))) : L_34_0 V g Y l0 l1 l2 Q := by
  intro h lv R e0 e1 e2 e3 ok_l0
  refine y_next (pc' := 1) (xst_of (i := (.iload_n 2)) (len := 1) rfl rfl (x_ilo e2)) ?_
  refine z_cI (k := 118) (i := (.invokestatic 76)) (as := [.int l2]) (rest := []) rfl rfl rfl (H _ _ R rfl) (fun x2 h Y1 R H => ?_)
  refine z_is (i := (.istore 4)) (len := 2) (pc' := 6) (q := 4) rfl rfl rfl (by decide) (fun lv1 hlv => ?_)
  have e0 := xs1_A hlv e0 rfl rfl
  have e1 := xs1_A hlv e1 rfl rfl
  have e2 := xs1_A hlv e2 rfl rfl
  have e3 := xs1_B hlv e3 rfl rfl
  have e4 := xs1_N hlv
  clear hlv
  refine y_next (pc' := 7) (xst_of (i := (.aload_n 0)) (len := 1) rfl rfl (x_aloadV (xisV_r _) e0)) ?_
  refine z_gA (t := l0) (k := 2) rfl rfl rfl R ok_l0 ?_
  refine y_next (pc' := 11) (xst_of (i := (.iload_n 2)) (len := 1) rfl rfl (x_ilo e2)) ?_
  refine z_cI (k := 119) (i := (.invokestatic 46)) (as := [.int l2]) (rest := [.ref (g.2 l0 3)]) rfl rfl rfl (H _ _ R rfl) (fun x4 h Y3 R H => ?_)
  refine z_aI (t := l0) (k := 2) (n := 8) (i := x4) rfl rfl R ok_l0 H.1 ?_
  replace H := H.2
  refine z_is (i := (.istore 5)) (len := 2) (pc' := 17) (q := 5) rfl rfl rfl (by decide) (fun lv2 hlv => ?_)
  have e0 := xs1_A hlv e0 rfl rfl
  have e1 := xs1_A hlv e1 rfl rfl
  have e2 := xs1_A hlv e2 rfl rfl
  have e3 := xs1_A hlv e3 rfl rfl
  have e4 := xs1_B hlv e4 rfl rfl
  have e5 := xs1_N hlv
  clear hlv
  refine y_next (pc' := 18) (xst_of (i := (.iload_n 1)) (len := 1) rfl rfl (x_ilo e1)) ?_
  by_cases hx : Int32.toInt l1 < 1 ∨ 14 < Int32.toInt l1
  · replace H := H.2 hx
    refine y_next (xst_of (i := (.tableswitch 190 1 14 #[70, 71, 83, 190, 190, 190, 190, 190, 93, 108, 123, 138, 150, 170])) (len := 70) rfl rfl (x_sw_out (t := 208) hx rfl)) ?_
    exact H _ _ R e0 e1 e2 e3 e4 e5 ok_l0
  · replace H := H.1
    have hy : Int32.toInt l1 = 1 ∨ Int32.toInt l1 = 2 ∨ Int32.toInt l1 = 3 ∨ Int32.toInt l1 = 4 ∨ Int32.toInt l1 = 5 ∨ Int32.toInt l1 = 6 ∨ Int32.toInt l1 = 7 ∨ Int32.toInt l1 = 8 ∨ Int32.toInt l1 = 9 ∨ Int32.toInt l1 = 10 ∨ Int32.toInt l1 = 11 ∨ Int32.toInt l1 = 12 ∨ Int32.toInt l1 = 13 ∨ Int32.toInt l1 = 14 := by omega
    rcases hy with hy | hy | hy | hy | hy | hy | hy | hy | hy | hy | hy | hy | hy | hy
    · replace H := H.1
      have hz : l1 = 1 := Int32.toInt_inj.mp (hy.trans rfl)
      replace H := H hz
      refine y_next (xst_of (i := (.tableswitch 190 1 14 #[70, 71, 83, 190, 190, 190, 190, 190, 93, 108, 123, 138, 150, 170])) (len := 70) rfl rfl (x_sw_in (t := 88) hx (by rw [hy]; rfl) rfl)) ?_
      exact y_ret (xst_of (i := .return_) (len := 1) rfl rfl rfl) ⟨_, rfl, R, H⟩
    · replace H := H.2.1
      have hz : l1 = 2 := Int32.toInt_inj.mp (hy.trans rfl)
      replace H := H hz
      refine y_next (xst_of (i := (.tableswitch 190 1 14 #[70, 71, 83, 190, 190, 190, 190, 190, 93, 108, 123, 138, 150, 170])) (len := 70) rfl rfl (x_sw_in (t := 89) hx (by rw [hy]; rfl) rfl)) ?_
      refine y_next (pc' := 90) (xst_of (i := (.aload_n 0)) (len := 1) rfl rfl (x_aloadV (xisV_r _) e0)) ?_
      refine z_gA (t := l0) (k := 2) rfl rfl rfl R ok_l0 ?_
      refine y_next (pc' := 95) (xst_of (i := (.iload 4)) (len := 2) rfl rfl (x_ilo e4)) ?_
      refine y_next (pc' := 96) (xst_of (i := (.iload_n 2)) (len := 1) rfl rfl (x_ilo e2)) ?_
      refine z_cI (k := 122) (i := (.invokestatic 79)) (as := [.int l2]) (rest := [.int x2, .ref (g.2 l0 3)]) rfl rfl rfl (H _ _ R rfl) (fun x6 h Y5 R H => ?_)
      refine z_sI (t := l0) (k := 2) (n := 8) (i := x2) rfl rfl R ok_l0 H.1 (fun h Y7 hY R => ?_)
      replace H := H.2 Y7 hY
      clear hY
      exact y_ret (xst_of (i := .return_) (len := 1) rfl rfl rfl) ⟨_, rfl, R, H⟩
    · replace H := H.2.2.1
      have hz : l1 = 3 := Int32.toInt_inj.mp (hy.trans rfl)
      replace H := H hz
      refine y_next (xst_of (i := (.tableswitch 190 1 14 #[70, 71, 83, 190, 190, 190, 190, 190, 93, 108, 123, 138, 150, 170])) (len := 70) rfl rfl (x_sw_in (t := 101) hx (by rw [hy]; rfl) rfl)) ?_
      refine y_next (pc' := 102) (xst_of (i := (.aload_n 0)) (len := 1) rfl rfl (x_aloadV (xisV_r _) e0)) ?_
      refine z_gA (t := l0) (k := 2) rfl rfl rfl R ok_l0 ?_
      refine y_next (pc' := 107) (xst_of (i := (.iload 4)) (len := 2) rfl rfl (x_ilo e4)) ?_
      refine y_next (pc' := 109) (xst_of (i := (.iload 5)) (len := 2) rfl rfl (x_ilo e5)) ?_
      refine z_sI (t := l0) (k := 2) (n := 8) (i := x2) rfl rfl R ok_l0 H.1 (fun h Y8 hY R => ?_)
      replace H := H.2 Y8 hY
      clear hY
      exact y_ret (xst_of (i := .return_) (len := 1) rfl rfl rfl) ⟨_, rfl, R, H⟩
    · replace H := H.2.2.2.1
      have hz : l1 = 4 := Int32.toInt_inj.mp (hy.trans rfl)
      replace H := H hz
      refine y_next (xst_of (i := (.tableswitch 190 1 14 #[70, 71, 83, 190, 190, 190, 190, 190, 93, 108, 123, 138, 150, 170])) (len := 70) rfl rfl (x_sw_in (t := 208) hx (by rw [hy]; rfl) rfl)) ?_
      exact H _ _ R e0 e1 e2 e3 e4 e5 ok_l0
    · replace H := H.2.2.2.2.1
      have hz : l1 = 5 := Int32.toInt_inj.mp (hy.trans rfl)
      replace H := H hz
      refine y_next (xst_of (i := (.tableswitch 190 1 14 #[70, 71, 83, 190, 190, 190, 190, 190, 93, 108, 123, 138, 150, 170])) (len := 70) rfl rfl (x_sw_in (t := 208) hx (by rw [hy]; rfl) rfl)) ?_
      exact H _ _ R e0 e1 e2 e3 e4 e5 ok_l0
    · replace H := H.2.2.2.2.2.1
      have hz : l1 = 6 := Int32.toInt_inj.mp (hy.trans rfl)
      replace H := H hz
      refine y_next (xst_of (i := (.tableswitch 190 1 14 #[70, 71, 83, 190, 190, 190, 190, 190, 93, 108, 123, 138, 150, 170])) (len := 70) rfl rfl (x_sw_in (t := 208) hx (by rw [hy]; rfl) rfl)) ?_
      exact H _ _ R e0 e1 e2 e3 e4 e5 ok_l0
    · replace H := H.2.2.2.2.2.2.1
      have hz : l1 = 7 := Int32.toInt_inj.mp (hy.trans rfl)
      replace H := H hz
      refine y_next (xst_of (i := (.tableswitch 190 1 14 #[70, 71, 83, 190, 190, 190, 190, 190, 93, 108, 123, 138, 150, 170])) (len := 70) rfl rfl (x_sw_in (t := 208) hx (by rw [hy]; rfl) rfl)) ?_
      exact H _ _ R e0 e1 e2 e3 e4 e5 ok_l0
    · replace H := H.2.2.2.2.2.2.2.1
      have hz : l1 = 8 := Int32.toInt_inj.mp (hy.trans rfl)
      replace H := H hz
      refine y_next (xst_of (i := (.tableswitch 190 1 14 #[70, 71, 83, 190, 190, 190, 190, 190, 93, 108, 123, 138, 150, 170])) (len := 70) rfl rfl (x_sw_in (t := 208) hx (by rw [hy]; rfl) rfl)) ?_
      exact H _ _ R e0 e1 e2 e3 e4 e5 ok_l0
    · replace H := H.2.2.2.2.2.2.2.2.1
      have hz : l1 = 9 := Int32.toInt_inj.mp (hy.trans rfl)
      replace H := H hz
      refine y_next (xst_of (i := (.tableswitch 190 1 14 #[70, 71, 83, 190, 190, 190, 190, 190, 93, 108, 123, 138, 150, 170])) (len := 70) rfl rfl (x_sw_in (t := 111) hx (by rw [hy]; rfl) rfl)) ?_
      refine y_next (pc' := 112) (xst_of (i := (.aload_n 0)) (len := 1) rfl rfl (x_aloadV (xisV_r _) e0)) ?_
      refine z_gA (t := l0) (k := 2) rfl rfl rfl R ok_l0 ?_
      refine y_next (pc' := 117) (xst_of (i := (.iload 4)) (len := 2) rfl rfl (x_ilo e4)) ?_
      refine y_next (pc' := 119) (xst_of (i := (.iload 5)) (len := 2) rfl rfl (x_ilo e5)) ?_
      refine y_next (pc' := 120) (xst_of (i := (.iload_n 2)) (len := 1) rfl rfl (x_ilo e2)) ?_
      refine z_cI (k := 122) (i := (.invokestatic 79)) (as := [.int l2]) (rest := [.int (fA Y3 l0 2 (Int32.toNatClampNeg x4)), .int x2, .ref (g.2 l0 3)]) rfl rfl rfl (H _ _ R rfl) (fun x10 h Y9 R H => ?_)
      refine y_next (pc' := 124) (xst_of (i := .iadd) (len := 1) rfl rfl rfl) ?_
      refine z_sI (t := l0) (k := 2) (n := 8) (i := x2) rfl rfl R ok_l0 H.1 (fun h Y11 hY R => ?_)
      replace H := H.2 Y11 hY
      clear hY
      exact y_ret (xst_of (i := .return_) (len := 1) rfl rfl rfl) ⟨_, rfl, R, H⟩
    · replace H := H.2.2.2.2.2.2.2.2.2.1
      have hz : l1 = 10 := Int32.toInt_inj.mp (hy.trans rfl)
      replace H := H hz
      refine y_next (xst_of (i := (.tableswitch 190 1 14 #[70, 71, 83, 190, 190, 190, 190, 190, 93, 108, 123, 138, 150, 170])) (len := 70) rfl rfl (x_sw_in (t := 126) hx (by rw [hy]; rfl) rfl)) ?_
      refine y_next (pc' := 127) (xst_of (i := (.aload_n 0)) (len := 1) rfl rfl (x_aloadV (xisV_r _) e0)) ?_
      refine z_gA (t := l0) (k := 2) rfl rfl rfl R ok_l0 ?_
      refine y_next (pc' := 132) (xst_of (i := (.iload 4)) (len := 2) rfl rfl (x_ilo e4)) ?_
      refine y_next (pc' := 134) (xst_of (i := (.iload 5)) (len := 2) rfl rfl (x_ilo e5)) ?_
      refine y_next (pc' := 135) (xst_of (i := (.iload_n 2)) (len := 1) rfl rfl (x_ilo e2)) ?_
      refine z_cI (k := 121) (i := (.invokestatic 82)) (as := [.int l2]) (rest := [.int (fA Y3 l0 2 (Int32.toNatClampNeg x4)), .int x2, .ref (g.2 l0 3)]) rfl rfl rfl (H _ _ R rfl) (fun x13 h Y12 R H => ?_)
      refine y_next (pc' := 139) (xst_of (i := .iand) (len := 1) rfl rfl rfl) ?_
      refine z_sI (t := l0) (k := 2) (n := 8) (i := x2) rfl rfl R ok_l0 H.1 (fun h Y14 hY R => ?_)
      replace H := H.2 Y14 hY
      clear hY
      exact y_ret (xst_of (i := .return_) (len := 1) rfl rfl rfl) ⟨_, rfl, R, H⟩
    · replace H := H.2.2.2.2.2.2.2.2.2.2.1
      have hz : l1 = 11 := Int32.toInt_inj.mp (hy.trans rfl)
      replace H := H hz
      refine y_next (xst_of (i := (.tableswitch 190 1 14 #[70, 71, 83, 190, 190, 190, 190, 190, 93, 108, 123, 138, 150, 170])) (len := 70) rfl rfl (x_sw_in (t := 141) hx (by rw [hy]; rfl) rfl)) ?_
      refine y_next (pc' := 142) (xst_of (i := (.aload_n 0)) (len := 1) rfl rfl (x_aloadV (xisV_r _) e0)) ?_
      refine z_gA (t := l0) (k := 2) rfl rfl rfl R ok_l0 ?_
      refine y_next (pc' := 147) (xst_of (i := (.iload 4)) (len := 2) rfl rfl (x_ilo e4)) ?_
      refine y_next (pc' := 149) (xst_of (i := (.iload 5)) (len := 2) rfl rfl (x_ilo e5)) ?_
      refine y_next (pc' := 150) (xst_of (i := (.iload_n 2)) (len := 1) rfl rfl (x_ilo e2)) ?_
      refine z_cI (k := 121) (i := (.invokestatic 82)) (as := [.int l2]) (rest := [.int (fA Y3 l0 2 (Int32.toNatClampNeg x4)), .int x2, .ref (g.2 l0 3)]) rfl rfl rfl (H _ _ R rfl) (fun x16 h Y15 R H => ?_)
      refine y_next (pc' := 154) (xst_of (i := .ishr) (len := 1) rfl rfl rfl) ?_
      refine z_sI (t := l0) (k := 2) (n := 8) (i := x2) rfl rfl R ok_l0 H.1 (fun h Y17 hY R => ?_)
      replace H := H.2 Y17 hY
      clear hY
      exact y_ret (xst_of (i := .return_) (len := 1) rfl rfl rfl) ⟨_, rfl, R, H⟩
    · replace H := H.2.2.2.2.2.2.2.2.2.2.2.1
      have hz : l1 = 12 := Int32.toInt_inj.mp (hy.trans rfl)
      replace H := H hz
      refine y_next (xst_of (i := (.tableswitch 190 1 14 #[70, 71, 83, 190, 190, 190, 190, 190, 93, 108, 123, 138, 150, 170])) (len := 70) rfl rfl (x_sw_in (t := 156) hx (by rw [hy]; rfl) rfl)) ?_
      refine y_next (pc' := 157) (xst_of (i := (.aload_n 0)) (len := 1) rfl rfl (x_aloadV (xisV_r _) e0)) ?_
      refine z_gA (t := l0) (k := 2) rfl rfl rfl R ok_l0 ?_
      refine y_next (pc' := 162) (xst_of (i := (.iload 4)) (len := 2) rfl rfl (x_ilo e4)) ?_
      refine y_next (pc' := 163) (xst_of (i := (.iload_n 2)) (len := 1) rfl rfl (x_ilo e2)) ?_
      refine z_cI (k := 121) (i := (.invokestatic 82)) (as := [.int l2]) (rest := [.int x2, .ref (g.2 l0 3)]) rfl rfl rfl (H _ _ R rfl) (fun x19 h Y18 R H => ?_)
      refine z_sI (t := l0) (k := 2) (n := 8) (i := x2) rfl rfl R ok_l0 H.1 (fun h Y20 hY R => ?_)
      replace H := H.2 Y20 hY
      clear hY
      exact y_ret (xst_of (i := .return_) (len := 1) rfl rfl rfl) ⟨_, rfl, R, H⟩
    · replace H := H.2.2.2.2.2.2.2.2.2.2.2.2.1
      have hz : l1 = 13 := Int32.toInt_inj.mp (hy.trans rfl)
      replace H := H hz
      refine y_next (xst_of (i := (.tableswitch 190 1 14 #[70, 71, 83, 190, 190, 190, 190, 190, 93, 108, 123, 138, 150, 170])) (len := 70) rfl rfl (x_sw_in (t := 168) hx (by rw [hy]; rfl) rfl)) ?_
      refine y_next (pc' := 169) (xst_of (i := (.aload_n 0)) (len := 1) rfl rfl (x_aloadV (xisV_r _) e0)) ?_
      refine z_gA (t := l0) (k := 2) rfl rfl rfl R ok_l0 ?_
      refine y_next (pc' := 174) (xst_of (i := (.iload 4)) (len := 2) rfl rfl (x_ilo e4)) ?_
      refine y_next (pc' := 175) (xst_of (i := (.aload_n 0)) (len := 1) rfl rfl (x_aloadV (xisV_r _) e0)) ?_
      refine y_next (pc' := 177) (xst_of (i := (.iload 5)) (len := 2) rfl rfl (x_ilo e5)) ?_
      refine y_next (pc' := 178) (xst_of (i := (.iload_n 2)) (len := 1) rfl rfl (x_ilo e2)) ?_
      refine z_cI (k := 122) (i := (.invokestatic 79)) (as := [.int l2]) (rest := [.int (fA Y3 l0 2 (Int32.toNatClampNeg x4)), .ref (g.2 l0 0), .int x2, .ref (g.2 l0 3)]) rfl rfl rfl (H _ _ R rfl) (fun x22 h Y21 R H => ?_)
      refine y_next (pc' := 182) (xst_of (i := .iadd) (len := 1) rfl rfl rfl) ?_
      refine y_next (pc' := 183) (xst_of (i := (.aload_n 3)) (len := 1) rfl rfl (x_aloadV (xisV_r _) e3)) ?_
      refine z_cI (k := 36) (i := (.invokevirtual 85)) (as := [.ref (g.2 l0 0), .int ((fA Y3 l0 2 (Int32.toNatClampNeg x4)) + x22), .ref (g.2 (7, 0, 0) 0)]) (rest := [.int x2, .ref (g.2 l0 3)]) rfl rfl (x_callv rfl rfl (rc_ob R ok_l0 rfl) rfl rfl) (H _ _ R rfl rfl rfl ok_l0) (fun x24 h Y23 R H => ?_)
      refine z_sI (t := l0) (k := 2) (n := 8) (i := x2) rfl rfl R ok_l0 H.1 (fun h Y25 hY R => ?_)
      replace H := H.2 Y25 hY
      clear hY
      exact y_ret (xst_of (i := .return_) (len := 1) rfl rfl rfl) ⟨_, rfl, R, H⟩
    · replace H := H.2.2.2.2.2.2.2.2.2.2.2.2.2
      have hz : l1 = 14 := Int32.toInt_inj.mp (hy.trans rfl)
      replace H := H hz
      refine y_next (xst_of (i := (.tableswitch 190 1 14 #[70, 71, 83, 190, 190, 190, 190, 190, 93, 108, 123, 138, 150, 170])) (len := 70) rfl rfl (x_sw_in (t := 188) hx (by rw [hy]; rfl) rfl)) ?_
      refine y_next (pc' := 189) (xst_of (i := (.aload_n 0)) (len := 1) rfl rfl (x_aloadV (xisV_r _) e0)) ?_
      refine y_next (pc' := 191) (xst_of (i := (.iload 5)) (len := 2) rfl rfl (x_ilo e5)) ?_
      refine y_next (pc' := 192) (xst_of (i := (.iload_n 2)) (len := 1) rfl rfl (x_ilo e2)) ?_
      refine z_cI (k := 122) (i := (.invokestatic 79)) (as := [.int l2]) (rest := [.int (fA Y3 l0 2 (Int32.toNatClampNeg x4)), .ref (g.2 l0 0)]) rfl rfl rfl (H _ _ R rfl) (fun x27 h Y26 R H => ?_)
      refine y_next (pc' := 196) (xst_of (i := .iadd) (len := 1) rfl rfl rfl) ?_
      refine y_next (pc' := 197) (xst_of (i := (.aload_n 0)) (len := 1) rfl rfl (x_aloadV (xisV_r _) e0)) ?_
      refine z_gA (t := l0) (k := 2) rfl rfl rfl R ok_l0 ?_
      refine y_next (pc' := 202) (xst_of (i := (.iload 4)) (len := 2) rfl rfl (x_ilo e4)) ?_
      refine z_aI (t := l0) (k := 2) (n := 8) (i := x2) rfl rfl R ok_l0 H.1 ?_
      replace H := H.2
      refine y_next (pc' := 204) (xst_of (i := (.aload_n 3)) (len := 1) rfl rfl (x_aloadV (xisV_r _) e3)) ?_
      refine z_cN (k := 37) (i := (.invokevirtual 89)) (as := [.ref (g.2 l0 0), .int ((fA Y3 l0 2 (Int32.toNatClampNeg x4)) + x27), .int (fA Y26 l0 2 (Int32.toNatClampNeg x2)), .ref (g.2 (7, 0, 0) 0)]) (rest := []) rfl rfl (x_callv rfl rfl (rc_ob R ok_l0 rfl) rfl rfl) (H _ _ R rfl rfl rfl rfl ok_l0) (fun h Y28 R H => ?_)
      exact y_ret (xst_of (i := .return_) (len := 1) rfl rfl rfl) ⟨_, rfl, R, H⟩
theorem l_34_208 {V : xV} {g : xG} {Y : xW} {l0 : xT} {l1 : Int32} {l2 : Int32} {l4 : Int32} {l5 : Int32} {Q : xW → Prop} (H : L_120_0 V g Y l2 (fun x2 Y1 => vp_in x2 8 ∧ L_35_0 V g Y1 l1 l5 (fA Y1 l0 2 (Int32.toNatClampNeg x2)) (fun x4 Y3 => vp_in l4 8 ∧ ∀ Y5, Y5 = uA Y3 l0 2 (Int32.toNatClampNeg l4) x4 → Q Y5))) : L_34_208 V g Y l0 l1 l2 l4 l5 Q := by
  intro h lv R e0 e1 e2 e3 e4 e5 ok_l0
  refine y_next (pc' := 209) (xst_of (i := (.aload_n 0)) (len := 1) rfl rfl (x_aloadV (xisV_r _) e0)) ?_
  refine z_gA (t := l0) (k := 2) rfl rfl rfl R ok_l0 ?_
  refine y_next (pc' := 214) (xst_of (i := (.iload 4)) (len := 2) rfl rfl (x_ilo e4)) ?_
  refine y_next (pc' := 215) (xst_of (i := (.iload_n 1)) (len := 1) rfl rfl (x_ilo e1)) ?_
  refine y_next (pc' := 217) (xst_of (i := (.iload 5)) (len := 2) rfl rfl (x_ilo e5)) ?_
  refine y_next (pc' := 218) (xst_of (i := (.aload_n 0)) (len := 1) rfl rfl (x_aloadV (xisV_r _) e0)) ?_
  refine z_gA (t := l0) (k := 2) rfl rfl rfl R ok_l0 ?_
  refine y_next (pc' := 222) (xst_of (i := (.iload_n 2)) (len := 1) rfl rfl (x_ilo e2)) ?_
  refine z_cI (k := 120) (i := (.invokestatic 92)) (as := [.int l2]) (rest := [.ref (g.2 l0 3), .int l5, .int l1, .int l4, .ref (g.2 l0 3)]) rfl rfl rfl (H _ _ R rfl) (fun x2 h Y1 R H => ?_)
  refine z_aI (t := l0) (k := 2) (n := 8) (i := x2) rfl rfl R ok_l0 H.1 ?_
  replace H := H.2
  refine z_cI (k := 35) (i := (.invokestatic 95)) (as := [.int l1, .int l5, .int (fA Y1 l0 2 (Int32.toNatClampNeg x2))]) (rest := [.int l4, .ref (g.2 l0 3)]) rfl rfl rfl (H _ _ R rfl rfl rfl) (fun x4 h Y3 R H => ?_)
  refine z_sI (t := l0) (k := 2) (n := 8) (i := l4) rfl rfl R ok_l0 H.1 (fun h Y5 hY R => ?_)
  replace H := H.2 Y5 hY
  clear hY
  exact y_ret (xst_of (i := .return_) (len := 1) rfl rfl rfl) ⟨_, rfl, R, H⟩
theorem l_35_0 {V : xV} {g : xG} {Y : xW} {l0 : Int32} {l1 : Int32} {l2 : Int32} {Q : Int32 → xW → Prop} (H : ((l0 = 4 → Q (l1 + l2) Y) ∧ (l0 = 5 → Q (l1 - l2) Y) ∧ (l0 = 6 → Q (l1 * l2) Y) ∧ (l0 = 7 → ((l2 = 0) → L_35_55 V g Y l0 l1 l2 0 Q) ∧ (¬ (l2 = 0) → (¬ l2 = 0) ∧ L_35_55 V g Y l0 l1 l2 (l1 / l2) Q))) ∧ ((Int32.toInt l0 < 4 ∨ 7 < Int32.toInt l0) → ((l2 = 0) → L_35_67 V g Y l0 l1 l2 0 Q) ∧ (¬ (l2 = 0) → (¬ l2 = 0) ∧ L_35_67 V g Y l0 l1 l2 (l1 - l1 / l2 * l2) Q))) : L_35_0 V g Y l0 l1 l2 Q := by
  intro h lv R e0 e1 e2
  refine y_next (pc' := 1) (xst_of (i := (.iload_n 0)) (len := 1) rfl rfl (x_ilo e0)) ?_
  by_cases hx : Int32.toInt l0 < 4 ∨ 7 < Int32.toInt l0
  · replace H := H.2 hx
    refine y_next (xst_of (i := (.tableswitch 55 4 7 #[31, 35, 39, 43])) (len := 31) rfl rfl (x_sw_out (t := 56) hx rfl)) ?_
    refine y_next (pc' := 57) (xst_of (i := (.iload_n 2)) (len := 1) rfl rfl (x_ilo e2)) ?_
    by_cases hc : l2 = 0
    · replace H := H.1 hc
      refine y_next (pc' := 60) (xst_of (i := (.ifCond .ne 7)) (len := 3) rfl rfl (xf_if_ne (t := 64) rfl (fun z => z hc))) ?_
      refine y_next (pc' := 61) (xst_of (i := (.iconst 0)) (len := 1) rfl rfl (x_ico (v := 0) (by decide))) ?_
      refine y_next (pc' := 67) (xst_of (i := (.goto 6)) (len := 3) rfl rfl rfl) ?_
      exact H _ _ R e0 e1 e2
    · replace H := H.2 hc
      refine y_next (xst_of (i := (.ifCond .ne 7)) (len := 3) rfl rfl (xt_if_ne (t := 64) rfl hc)) ?_
      refine y_next (pc' := 65) (xst_of (i := (.iload_n 1)) (len := 1) rfl rfl (x_ilo e1)) ?_
      refine y_next (pc' := 66) (xst_of (i := (.iload_n 2)) (len := 1) rfl rfl (x_ilo e2)) ?_
      refine y_next (pc' := 67) (xst_of (i := .irem) (len := 1) rfl rfl (x_irem H.1)) ?_
      replace H := H.2
      exact H _ _ R e0 e1 e2
  · replace H := H.1
    have hy : Int32.toInt l0 = 4 ∨ Int32.toInt l0 = 5 ∨ Int32.toInt l0 = 6 ∨ Int32.toInt l0 = 7 := by omega
    rcases hy with hy | hy | hy | hy
    · replace H := H.1
      have hz : l0 = 4 := Int32.toInt_inj.mp (hy.trans rfl)
      replace H := H hz
      refine y_next (xst_of (i := (.tableswitch 55 4 7 #[31, 35, 39, 43])) (len := 31) rfl rfl (x_sw_in (t := 32) hx (by rw [hy]; rfl) rfl)) ?_
      refine y_next (pc' := 33) (xst_of (i := (.iload_n 1)) (len := 1) rfl rfl (x_ilo e1)) ?_
      refine y_next (pc' := 34) (xst_of (i := (.iload_n 2)) (len := 1) rfl rfl (x_ilo e2)) ?_
      refine y_next (pc' := 35) (xst_of (i := .iadd) (len := 1) rfl rfl rfl) ?_
      exact y_ret (xst_of (i := .ireturn) (len := 1) rfl rfl rfl) ⟨_, _, rfl, R, H⟩
    · replace H := H.2.1
      have hz : l0 = 5 := Int32.toInt_inj.mp (hy.trans rfl)
      replace H := H hz
      refine y_next (xst_of (i := (.tableswitch 55 4 7 #[31, 35, 39, 43])) (len := 31) rfl rfl (x_sw_in (t := 36) hx (by rw [hy]; rfl) rfl)) ?_
      refine y_next (pc' := 37) (xst_of (i := (.iload_n 1)) (len := 1) rfl rfl (x_ilo e1)) ?_
      refine y_next (pc' := 38) (xst_of (i := (.iload_n 2)) (len := 1) rfl rfl (x_ilo e2)) ?_
      refine y_next (pc' := 39) (xst_of (i := .isub) (len := 1) rfl rfl rfl) ?_
      exact y_ret (xst_of (i := .ireturn) (len := 1) rfl rfl rfl) ⟨_, _, rfl, R, H⟩
    · replace H := H.2.2.1
      have hz : l0 = 6 := Int32.toInt_inj.mp (hy.trans rfl)
      replace H := H hz
      refine y_next (xst_of (i := (.tableswitch 55 4 7 #[31, 35, 39, 43])) (len := 31) rfl rfl (x_sw_in (t := 40) hx (by rw [hy]; rfl) rfl)) ?_
      refine y_next (pc' := 41) (xst_of (i := (.iload_n 1)) (len := 1) rfl rfl (x_ilo e1)) ?_
      refine y_next (pc' := 42) (xst_of (i := (.iload_n 2)) (len := 1) rfl rfl (x_ilo e2)) ?_
      refine y_next (pc' := 43) (xst_of (i := .imul) (len := 1) rfl rfl rfl) ?_
      exact y_ret (xst_of (i := .ireturn) (len := 1) rfl rfl rfl) ⟨_, _, rfl, R, H⟩
    · replace H := H.2.2.2
      have hz : l0 = 7 := Int32.toInt_inj.mp (hy.trans rfl)
      replace H := H hz
      refine y_next (xst_of (i := (.tableswitch 55 4 7 #[31, 35, 39, 43])) (len := 31) rfl rfl (x_sw_in (t := 44) hx (by rw [hy]; rfl) rfl)) ?_
      refine y_next (pc' := 45) (xst_of (i := (.iload_n 2)) (len := 1) rfl rfl (x_ilo e2)) ?_
      by_cases hc : l2 = 0
      · replace H := H.1 hc
        refine y_next (pc' := 48) (xst_of (i := (.ifCond .ne 7)) (len := 3) rfl rfl (xf_if_ne (t := 52) rfl (fun z => z hc))) ?_
        refine y_next (pc' := 49) (xst_of (i := (.iconst 0)) (len := 1) rfl rfl (x_ico (v := 0) (by decide))) ?_
        refine y_next (pc' := 55) (xst_of (i := (.goto 6)) (len := 3) rfl rfl rfl) ?_
        exact H _ _ R e0 e1 e2
      · replace H := H.2 hc
        refine y_next (xst_of (i := (.ifCond .ne 7)) (len := 3) rfl rfl (xt_if_ne (t := 52) rfl hc)) ?_
        refine y_next (pc' := 53) (xst_of (i := (.iload_n 1)) (len := 1) rfl rfl (x_ilo e1)) ?_
        refine y_next (pc' := 54) (xst_of (i := (.iload_n 2)) (len := 1) rfl rfl (x_ilo e2)) ?_
        refine y_next (pc' := 55) (xst_of (i := .idiv) (len := 1) rfl rfl (x_idiv H.1)) ?_
        replace H := H.2
        exact H _ _ R e0 e1 e2
theorem l_35_55 {V : xV} {g : xG} {Y : xW} {l0 : Int32} {l1 : Int32} {l2 : Int32} {s0 : Int32} {Q : Int32 → xW → Prop} (H : Q s0 Y) : L_35_55 V g Y l0 l1 l2 s0 Q := by
  intro h lv R e0 e1 e2
  exact y_ret (xst_of (i := .ireturn) (len := 1) rfl rfl rfl) ⟨_, _, rfl, R, H⟩
theorem l_35_67 {V : xV} {g : xG} {Y : xW} {l0 : Int32} {l1 : Int32} {l2 : Int32} {s0 : Int32} {Q : Int32 → xW → Prop} (H : Q s0 Y) : L_35_67 V g Y l0 l1 l2 s0 Q := by
  intro h lv R e0 e1 e2
  exact y_ret (xst_of (i := .ireturn) (len := 1) rfl rfl rfl) ⟨_, _, rfl, R, H⟩
theorem l_36_0 {V : xV} {g : xG} {Y : xW} {l0 : xT} {l1 : Int32} {Q : Int32 → xW → Prop} (H : L_31_0 V g Y l0 l1 (fun x2 Y1 => ((x2 = 0) → L_36_22 V g Y1 l0 l1 0 Q) ∧ (¬ (x2 = 0) → L_65_0 V g Y1 ((fI Y1 l0 7) + l1) (fun x4 Y3 => L_36_22 V g Y3 l0 l1 x4 Q)))) : L_36_0 V g Y l0 l1 Q := by
  intro h lv R e0 e1 e2 ok_l0
  refine y_next (pc' := 1) (xst_of (i := (.aload_n 0)) (len := 1) rfl rfl (x_aloadV (xisV_r _) e0)) ?_
  refine y_next (pc' := 2) (xst_of (i := (.iload_n 1)) (len := 1) rfl rfl (x_ilo e1)) ?_
  refine z_cI (k := 31) (i := (.invokevirtual 99)) (as := [.ref (g.2 l0 0), .int l1]) (rest := []) rfl rfl (x_callv rfl rfl (rc_ob R ok_l0 rfl) rfl rfl) (H _ _ R rfl rfl ok_l0) (fun x2 h Y1 R H => ?_)
  by_cases hc : x2 = 0
  · replace H := H.1 hc
    refine y_next (xst_of (i := (.ifCond .eq 16)) (len := 3) rfl rfl (xt_if_eq (t := 21) rfl hc)) ?_
    refine y_next (pc' := 22) (xst_of (i := (.iconst 0)) (len := 1) rfl rfl (x_ico (v := 0) (by decide))) ?_
    exact H _ _ R e0 e1 e2 ok_l0
  · replace H := H.2 hc
    refine y_next (pc' := 8) (xst_of (i := (.ifCond .eq 16)) (len := 3) rfl rfl (xf_if_eq (t := 21) rfl hc)) ?_
    refine y_next (pc' := 9) (xst_of (i := (.aload_n 2)) (len := 1) rfl rfl (x_aloadV (xisV_r _) e2)) ?_
    refine y_next (pc' := 10) (xst_of (i := (.aload_n 0)) (len := 1) rfl rfl (x_aloadV (xisV_r _) e0)) ?_
    refine z_gI (t := l0) (k := 7) rfl rfl rfl R ok_l0 ?_
    refine y_next (pc' := 14) (xst_of (i := (.iload_n 1)) (len := 1) rfl rfl (x_ilo e1)) ?_
    refine y_next (pc' := 15) (xst_of (i := .iadd) (len := 1) rfl rfl rfl) ?_
    refine z_cI (k := 65) (i := (.invokevirtual 103)) (as := [.ref (g.2 (7, 0, 0) 0), .int ((fI Y1 l0 7) + l1)]) (rest := []) rfl rfl (x_callv rfl rfl (rc_ob R (rc_7 R) rfl) rfl rfl) (H _ _ R rfl rfl) (fun x4 h Y3 R H => ?_)
    refine y_next (pc' := 22) (xst_of (i := (.goto 4)) (len := 3) rfl rfl rfl) ?_
    exact H _ _ R e0 e1 e2 ok_l0
theorem l_36_22 {V : xV} {g : xG} {Y : xW} {l0 : xT} {l1 : Int32} {s0 : Int32} {Q : Int32 → xW → Prop} (H : Q s0 Y) : L_36_22 V g Y l0 l1 s0 Q := by
  intro h lv R e0 e1 e2 ok_l0
  exact y_ret (xst_of (i := .ireturn) (len := 1) rfl rfl rfl) ⟨_, _, rfl, R, H⟩
theorem l_37_0 {V : xV} {g : xG} {Y : xW} {l0 : xT} {l1 : Int32} {l2 : Int32} {Q : xW → Prop} (H : L_31_0 V g Y l0 l1 (fun x2 Y1 => ((x2 = 0) → L_37_19 V g Y1 l0 l1 l2 Q) ∧ (¬ (x2 = 0) → L_66_0 V g Y1 ((fI Y1 l0 7) + l1) l2 (fun Y3 => L_37_19 V g Y3 l0 l1 l2 Q)))) : L_37_0 V g Y l0 l1 l2 Q := by
  intro h lv R e0 e1 e2 e3 ok_l0
  refine y_next (pc' := 1) (xst_of (i := (.aload_n 0)) (len := 1) rfl rfl (x_aloadV (xisV_r _) e0)) ?_
  refine y_next (pc' := 2) (xst_of (i := (.iload_n 1)) (len := 1) rfl rfl (x_ilo e1)) ?_
  refine z_cI (k := 31) (i := (.invokevirtual 99)) (as := [.ref (g.2 l0 0), .int l1]) (rest := []) rfl rfl (x_callv rfl rfl (rc_ob R ok_l0 rfl) rfl rfl) (H _ _ R rfl rfl ok_l0) (fun x2 h Y1 R H => ?_)
  by_cases hc : x2 = 0
  · replace H := H.1 hc
    refine y_next (xst_of (i := (.ifCond .eq 14)) (len := 3) rfl rfl (xt_if_eq (t := 19) rfl hc)) ?_
    exact H _ _ R e0 e1 e2 e3 ok_l0
  · replace H := H.2 hc
    refine y_next (pc' := 8) (xst_of (i := (.ifCond .eq 14)) (len := 3) rfl rfl (xf_if_eq (t := 19) rfl hc)) ?_
    refine y_next (pc' := 9) (xst_of (i := (.aload_n 3)) (len := 1) rfl rfl (x_aloadV (xisV_r _) e3)) ?_
    refine y_next (pc' := 10) (xst_of (i := (.aload_n 0)) (len := 1) rfl rfl (x_aloadV (xisV_r _) e0)) ?_
    refine z_gI (t := l0) (k := 7) rfl rfl rfl R ok_l0 ?_
    refine y_next (pc' := 14) (xst_of (i := (.iload_n 1)) (len := 1) rfl rfl (x_ilo e1)) ?_
    refine y_next (pc' := 15) (xst_of (i := .iadd) (len := 1) rfl rfl rfl) ?_
    refine y_next (pc' := 16) (xst_of (i := (.iload_n 2)) (len := 1) rfl rfl (x_ilo e2)) ?_
    refine z_cN (k := 66) (i := (.invokevirtual 108)) (as := [.ref (g.2 (7, 0, 0) 0), .int ((fI Y1 l0 7) + l1), .int l2]) (rest := []) rfl rfl (x_callv rfl rfl (rc_ob R (rc_7 R) rfl) rfl rfl) (H _ _ R rfl rfl rfl) (fun h Y3 R H => ?_)
    exact H _ _ R e0 e1 e2 e3 ok_l0
theorem l_37_19 {V : xV} {g : xG} {Y : xW} {l0 : xT} {l1 : Int32} {l2 : Int32} {Q : xW → Prop} (H : Q Y) : L_37_19 V g Y l0 l1 l2 Q := by
  intro h lv R e0 e1 e2 e3 ok_l0
  exact y_ret (xst_of (i := .return_) (len := 1) rfl rfl rfl) ⟨_, rfl, R, H⟩
theorem l_38_0 {V : xV} {g : xG} {Y : xW} {l0 : xT} {l1 : xT} {l2 : Int32} {l3 : Int32} {Q : xW → Prop} (H : L_121_0 V g Y l3 (fun x2 Y1 => L_118_0 V g Y1 l3 (fun x4 Y3 => vp_in x4 8 ∧ L_119_0 V g Y3 l3 (fun x6 Y5 => vp_in x6 8 ∧ ((l2 = 15 → ∀ Y8, Y8 = uI Y5 l0 6 x2 → Q Y8) ∧ (l2 = 16 → (((fA Y5 l0 2 (Int32.toNatClampNeg x6)) ≤ (fA Y3 l0 2 (Int32.toNatClampNeg x4))) → L_38_90 V g Y5 l0 l1 l2 l3 x2 (fA Y3 l0 2 (Int32.toNatClampNeg x4)) (fA Y5 l0 2 (Int32.toNatClampNeg x6)) l0 ((fI Y5 l0 6) + 1) Q) ∧ (¬ ((fA Y5 l0 2 (Int32.toNatClampNeg x6)) ≤ (fA Y3 l0 2 (Int32.toNatClampNeg x4))) → L_38_90 V g Y5 l0 l1 l2 l3 x2 (fA Y3 l0 2 (Int32.toNatClampNeg x4)) (fA Y5 l0 2 (Int32.toNatClampNeg x6)) l0 x2 Q)) ∧ (l2 = 17 → (((fA Y3 l0 2 (Int32.toNatClampNeg x4)) = (fA Y5 l0 2 (Int32.toNatClampNeg x6))) → L_38_113 V g Y5 l0 l1 l2 l3 x2 (fA Y3 l0 2 (Int32.toNatClampNeg x4)) (fA Y5 l0 2 (Int32.toNatClampNeg x6)) l0 x2 Q) ∧ (¬ ((fA Y3 l0 2 (Int32.toNatClampNeg x4)) = (fA Y5 l0 2 (Int32.toNatClampNeg x6))) → L_38_113 V g Y5 l0 l1 l2 l3 x2 (fA Y3 l0 2 (Int32.toNatClampNeg x4)) (fA Y5 l0 2 (Int32.toNatClampNeg x6)) l0 ((fI Y5 l0 6) + 1) Q)) ∧ (l2 = 18 → L_45_0 V g Y5 l1 x2 (fun o10 Y9 => (o10 = none → L_38_140 V g Y9 l0 l1 l2 l3 x2 (fA Y3 l0 2 (Int32.toNatClampNeg x4)) (fA Y5 l0 2 (Int32.toNatClampNeg x6)) none Q) ∧ (∀ u11, o10 = some u11 → L_39_0 V g Y9 l0 (fI Y9 l0 5) u11 (fun Y12 => L_38_140 V g Y12 l0 l1 l2 l3 x2 (fA Y3 l0 2 (Int32.toNatClampNeg x4)) (fA Y5 l0 2 (Int32.toNatClampNeg x6)) (some u11) Q)))) ∧ (l2 = 19 → L_46_0 V g Y5 l1 x2 (fun o14 Y13 => (o14 = none → L_38_168 V g Y13 l0 l1 l2 l3 x2 (fA Y3 l0 2 (Int32.toNatClampNeg x4)) (fA Y5 l0 2 (Int32.toNatClampNeg x6)) none Q) ∧ (∀ u15, o14 = some u15 → ∀ o16, o16 = fR Y13 u15 1 0 → ∃ u17, o16 = some u17 ∧ L_39_0 V g Y13 l0 (fI Y13 u15 0) u17 (fun Y18 => L_38_168 V g Y18 l0 l1 l2 l3 x2 (fA Y3 l0 2 (Int32.toNatClampNeg x4)) (fA Y5 l0 2 (Int32.toNatClampNeg x6)) (some u15) Q))))) ∧ ((Int32.toInt l2 < 15 ∨ 19 < Int32.toInt l2) → L_40_0 V g Y5 l0 (fun Y7 => Q Y7)))))) : L_38_0 V g Y l0 l1 l2 l3 Q := by
  intro h lv R e0 e1 e2 e3 ok_l0 ok_l1
  refine y_next (pc' := 1) (xst_of (i := (.iload_n 3)) (len := 1) rfl rfl (x_ilo e3)) ?_
  refine z_cI (k := 121) (i := (.invokestatic 82)) (as := [.int l3]) (rest := []) rfl rfl rfl (H _ _ R rfl) (fun x2 h Y1 R H => ?_)
  refine z_is (i := (.istore 4)) (len := 2) (pc' := 6) (q := 4) rfl rfl rfl (by decide) (fun lv1 hlv => ?_)
  have e0 := xs1_A hlv e0 rfl rfl
  have e1 := xs1_A hlv e1 rfl rfl
  have e2 := xs1_A hlv e2 rfl rfl
  have e3 := xs1_B hlv e3 rfl rfl
  have e4 := xs1_N hlv
  clear hlv
  refine y_next (pc' := 7) (xst_of (i := (.aload_n 0)) (len := 1) rfl rfl (x_aloadV (xisV_r _) e0)) ?_
  refine z_gA (t := l0) (k := 2) rfl rfl rfl R ok_l0 ?_
  refine y_next (pc' := 11) (xst_of (i := (.iload_n 3)) (len := 1) rfl rfl (x_ilo e3)) ?_
  refine z_cI (k := 118) (i := (.invokestatic 76)) (as := [.int l3]) (rest := [.ref (g.2 l0 3)]) rfl rfl rfl (H _ _ R rfl) (fun x4 h Y3 R H => ?_)
  refine z_aI (t := l0) (k := 2) (n := 8) (i := x4) rfl rfl R ok_l0 H.1 ?_
  replace H := H.2
  refine z_is (i := (.istore 5)) (len := 2) (pc' := 17) (q := 5) rfl rfl rfl (by decide) (fun lv2 hlv => ?_)
  have e0 := xs1_A hlv e0 rfl rfl
  have e1 := xs1_A hlv e1 rfl rfl
  have e2 := xs1_A hlv e2 rfl rfl
  have e3 := xs1_A hlv e3 rfl rfl
  have e4 := xs1_B hlv e4 rfl rfl
  have e5 := xs1_N hlv
  clear hlv
  refine y_next (pc' := 18) (xst_of (i := (.aload_n 0)) (len := 1) rfl rfl (x_aloadV (xisV_r _) e0)) ?_
  refine z_gA (t := l0) (k := 2) rfl rfl rfl R ok_l0 ?_
  refine y_next (pc' := 22) (xst_of (i := (.iload_n 3)) (len := 1) rfl rfl (x_ilo e3)) ?_
  refine z_cI (k := 119) (i := (.invokestatic 46)) (as := [.int l3]) (rest := [.ref (g.2 l0 3)]) rfl rfl rfl (H _ _ R rfl) (fun x6 h Y5 R H => ?_)
  refine z_aI (t := l0) (k := 2) (n := 8) (i := x6) rfl rfl R ok_l0 H.1 ?_
  replace H := H.2
  refine z_is (i := (.istore 6)) (len := 2) (pc' := 28) (q := 6) rfl rfl rfl (by decide) (fun lv3 hlv => ?_)
  have e0 := xs1_A hlv e0 rfl rfl
  have e1 := xs1_A hlv e1 rfl rfl
  have e2 := xs1_A hlv e2 rfl rfl
  have e3 := xs1_A hlv e3 rfl rfl
  have e4 := xs1_A hlv e4 rfl rfl
  have e5 := xs1_B hlv e5 rfl rfl
  have e6 := xs1_N hlv
  clear hlv
  refine y_next (pc' := 29) (xst_of (i := (.iload_n 2)) (len := 1) rfl rfl (x_ilo e2)) ?_
  by_cases hx : Int32.toInt l2 < 15 ∨ 19 < Int32.toInt l2
  · replace H := H.2 hx
    refine y_next (xst_of (i := (.tableswitch 140 15 19 #[35, 42, 65, 88, 112])) (len := 35) rfl rfl (x_sw_out (t := 169) hx rfl)) ?_
    refine y_next (pc' := 170) (xst_of (i := (.aload_n 0)) (len := 1) rfl rfl (x_aloadV (xisV_r _) e0)) ?_
    refine z_cN (k := 40) (i := (.invokevirtual 131)) (as := [.ref (g.2 l0 0)]) (rest := []) rfl rfl (x_callv rfl rfl (rc_ob R ok_l0 rfl) rfl rfl) (H _ _ R rfl ok_l0) (fun h Y7 R H => ?_)
    exact y_ret (xst_of (i := .return_) (len := 1) rfl rfl rfl) ⟨_, rfl, R, H⟩
  · replace H := H.1
    have hy : Int32.toInt l2 = 15 ∨ Int32.toInt l2 = 16 ∨ Int32.toInt l2 = 17 ∨ Int32.toInt l2 = 18 ∨ Int32.toInt l2 = 19 := by omega
    rcases hy with hy | hy | hy | hy | hy
    · replace H := H.1
      have hz : l2 = 15 := Int32.toInt_inj.mp (hy.trans rfl)
      replace H := H hz
      refine y_next (xst_of (i := (.tableswitch 140 15 19 #[35, 42, 65, 88, 112])) (len := 35) rfl rfl (x_sw_in (t := 64) hx (by rw [hy]; rfl) rfl)) ?_
      refine y_next (pc' := 65) (xst_of (i := (.aload_n 0)) (len := 1) rfl rfl (x_aloadV (xisV_r _) e0)) ?_
      refine y_next (pc' := 67) (xst_of (i := (.iload 4)) (len := 2) rfl rfl (x_ilo e4)) ?_
      refine z_pI (t := l0) (k := 6) rfl rfl rfl rfl rfl R ok_l0 (fun h Y8 hY R => ?_)
      replace H := H Y8 hY
      clear hY
      exact y_ret (xst_of (i := .return_) (len := 1) rfl rfl rfl) ⟨_, rfl, R, H⟩
    · replace H := H.2.1
      have hz : l2 = 16 := Int32.toInt_inj.mp (hy.trans rfl)
      replace H := H hz
      refine y_next (xst_of (i := (.tableswitch 140 15 19 #[35, 42, 65, 88, 112])) (len := 35) rfl rfl (x_sw_in (t := 71) hx (by rw [hy]; rfl) rfl)) ?_
      refine y_next (pc' := 72) (xst_of (i := (.aload_n 0)) (len := 1) rfl rfl (x_aloadV (xisV_r _) e0)) ?_
      refine y_next (pc' := 74) (xst_of (i := (.iload 5)) (len := 2) rfl rfl (x_ilo e5)) ?_
      refine y_next (pc' := 76) (xst_of (i := (.iload 6)) (len := 2) rfl rfl (x_ilo e6)) ?_
      by_cases hc : (fA Y5 l0 2 (Int32.toNatClampNeg x6)) ≤ (fA Y3 l0 2 (Int32.toNatClampNeg x4))
      · replace H := H.1 hc
        refine y_next (xst_of (i := (.if_icmp .ge 8)) (len := 3) rfl rfl (xt_icmp_ge (t := 84) rfl hc)) ?_
        refine y_next (pc' := 85) (xst_of (i := (.aload_n 0)) (len := 1) rfl rfl (x_aloadV (xisV_r _) e0)) ?_
        refine z_gI (t := l0) (k := 6) rfl rfl rfl R ok_l0 ?_
        refine y_next (pc' := 89) (xst_of (i := (.iconst 1)) (len := 1) rfl rfl (x_ico (v := 1) (by decide))) ?_
        refine y_next (pc' := 90) (xst_of (i := .iadd) (len := 1) rfl rfl rfl) ?_
        exact H _ _ R e0 e1 e2 e3 e4 e5 e6 ok_l0 ok_l1 ok_l0
      · replace H := H.2 hc
        refine y_next (pc' := 79) (xst_of (i := (.if_icmp .ge 8)) (len := 3) rfl rfl (xf_icmp_ge (t := 84) rfl hc)) ?_
        refine y_next (pc' := 81) (xst_of (i := (.iload 4)) (len := 2) rfl rfl (x_ilo e4)) ?_
        refine y_next (pc' := 90) (xst_of (i := (.goto 9)) (len := 3) rfl rfl rfl) ?_
        exact H _ _ R e0 e1 e2 e3 e4 e5 e6 ok_l0 ok_l1 ok_l0
    · replace H := H.2.2.1
      have hz : l2 = 17 := Int32.toInt_inj.mp (hy.trans rfl)
      replace H := H hz
      refine y_next (xst_of (i := (.tableswitch 140 15 19 #[35, 42, 65, 88, 112])) (len := 35) rfl rfl (x_sw_in (t := 94) hx (by rw [hy]; rfl) rfl)) ?_
      refine y_next (pc' := 95) (xst_of (i := (.aload_n 0)) (len := 1) rfl rfl (x_aloadV (xisV_r _) e0)) ?_
      refine y_next (pc' := 97) (xst_of (i := (.iload 5)) (len := 2) rfl rfl (x_ilo e5)) ?_
      refine y_next (pc' := 99) (xst_of (i := (.iload 6)) (len := 2) rfl rfl (x_ilo e6)) ?_
      by_cases hc : (fA Y3 l0 2 (Int32.toNatClampNeg x4)) = (fA Y5 l0 2 (Int32.toNatClampNeg x6))
      · replace H := H.1 hc
        refine y_next (pc' := 102) (xst_of (i := (.if_icmp .ne 8)) (len := 3) rfl rfl (xf_icmp_ne (t := 107) rfl (fun z => z hc))) ?_
        refine y_next (pc' := 104) (xst_of (i := (.iload 4)) (len := 2) rfl rfl (x_ilo e4)) ?_
        refine y_next (pc' := 113) (xst_of (i := (.goto 9)) (len := 3) rfl rfl rfl) ?_
        exact H _ _ R e0 e1 e2 e3 e4 e5 e6 ok_l0 ok_l1 ok_l0
      · replace H := H.2 hc
        refine y_next (xst_of (i := (.if_icmp .ne 8)) (len := 3) rfl rfl (xt_icmp_ne (t := 107) rfl hc)) ?_
        refine y_next (pc' := 108) (xst_of (i := (.aload_n 0)) (len := 1) rfl rfl (x_aloadV (xisV_r _) e0)) ?_
        refine z_gI (t := l0) (k := 6) rfl rfl rfl R ok_l0 ?_
        refine y_next (pc' := 112) (xst_of (i := (.iconst 1)) (len := 1) rfl rfl (x_ico (v := 1) (by decide))) ?_
        refine y_next (pc' := 113) (xst_of (i := .iadd) (len := 1) rfl rfl rfl) ?_
        exact H _ _ R e0 e1 e2 e3 e4 e5 e6 ok_l0 ok_l1 ok_l0
    · replace H := H.2.2.2.1
      have hz : l2 = 18 := Int32.toInt_inj.mp (hy.trans rfl)
      replace H := H hz
      refine y_next (xst_of (i := (.tableswitch 140 15 19 #[35, 42, 65, 88, 112])) (len := 35) rfl rfl (x_sw_in (t := 117) hx (by rw [hy]; rfl) rfl)) ?_
      refine y_next (pc' := 118) (xst_of (i := (.aload_n 1)) (len := 1) rfl rfl (x_aloadV (xisV_r _) e1)) ?_
      refine y_next (pc' := 120) (xst_of (i := (.iload 4)) (len := 2) rfl rfl (x_ilo e4)) ?_
      refine z_cR (c := 0) (k := 45) (i := (.invokevirtual 112)) (as := [.ref (g.2 l1 0), .int x2]) (rest := []) rfl rfl (x_callv rfl rfl (rc_ob R ok_l1 rfl) rfl rfl) (H _ _ R rfl rfl ok_l1) (fun o10 h Y9 R ok_o10 H => ?_)
      refine z_as (i := (.astore 7)) (len := 2) (pc' := 125) (q := 7) rfl rfl rfl (by decide) (rv_V g o10) (fun lv4 hlv => ?_)
      have e0 := xs1_A hlv e0 rfl rfl
      have e1 := xs1_A hlv e1 rfl rfl
      have e2 := xs1_A hlv e2 rfl rfl
      have e3 := xs1_A hlv e3 rfl rfl
      have e4 := xs1_A hlv e4 rfl rfl
      have e5 := xs1_A hlv e5 rfl rfl
      have e6 := xs1_B hlv e6 rfl rfl
      have e7 := xs1_N hlv
      clear hlv
      refine y_next (pc' := 127) (xst_of (i := (.aload 7)) (len := 2) rfl rfl (x_aloadV (rv_V g o10) e7)) ?_
      rcases o10 with _ | u11
      · replace H := H.1 rfl
        refine y_next (pc' := 140) (xst_of (i := (.ifnull 13)) (len := 3) rfl rfl rfl) ?_
        exact H _ _ R e0 e1 e2 e3 e4 e5 e6 e7 ok_l0 ok_l1 ok_n
      · replace H := H.2 u11 rfl
        have ok_u11 := ok_o10 u11 rfl
        refine y_next (pc' := 130) (xst_of (i := (.ifnull 13)) (len := 3) rfl rfl rfl) ?_
        refine y_next (pc' := 131) (xst_of (i := (.aload_n 0)) (len := 1) rfl rfl (x_aloadV (xisV_r _) e0)) ?_
        refine y_next (pc' := 132) (xst_of (i := (.aload_n 0)) (len := 1) rfl rfl (x_aloadV (xisV_r _) e0)) ?_
        refine z_gI (t := l0) (k := 5) rfl rfl rfl R ok_l0 ?_
        refine y_next (pc' := 137) (xst_of (i := (.aload 7)) (len := 2) rfl rfl (x_aloadV (xisV_r _) e7)) ?_
        refine z_cN (k := 39) (i := (.invokevirtual 116)) (as := [.ref (g.2 l0 0), .int (fI Y9 l0 5), .ref (g.2 u11 0)]) (rest := []) rfl rfl (x_callv rfl rfl (rc_ob R ok_l0 rfl) rfl rfl) (H _ _ R rfl rfl rfl ok_l0 ok_u11) (fun h Y12 R H => ?_)
        exact H _ _ R e0 e1 e2 e3 e4 e5 e6 e7 ok_l0 ok_l1 (ok_s ok_u11)
    · replace H := H.2.2.2.2
      have hz : l2 = 19 := Int32.toInt_inj.mp (hy.trans rfl)
      replace H := H hz
      refine y_next (xst_of (i := (.tableswitch 140 15 19 #[35, 42, 65, 88, 112])) (len := 35) rfl rfl (x_sw_in (t := 141) hx (by rw [hy]; rfl) rfl)) ?_
      refine y_next (pc' := 142) (xst_of (i := (.aload_n 1)) (len := 1) rfl rfl (x_aloadV (xisV_r _) e1)) ?_
      refine y_next (pc' := 144) (xst_of (i := (.iload 4)) (len := 2) rfl rfl (x_ilo e4)) ?_
      refine z_cR (c := 3) (k := 46) (i := (.invokevirtual 120)) (as := [.ref (g.2 l1 0), .int x2]) (rest := []) rfl rfl (x_callv rfl rfl (rc_ob R ok_l1 rfl) rfl rfl) (H _ _ R rfl rfl ok_l1) (fun o14 h Y13 R ok_o14 H => ?_)
      refine z_as (i := (.astore 8)) (len := 2) (pc' := 149) (q := 8) rfl rfl rfl (by decide) (rv_V g o14) (fun lv5 hlv => ?_)
      have e0 := xs1_A hlv e0 rfl rfl
      have e1 := xs1_A hlv e1 rfl rfl
      have e2 := xs1_A hlv e2 rfl rfl
      have e3 := xs1_A hlv e3 rfl rfl
      have e4 := xs1_A hlv e4 rfl rfl
      have e5 := xs1_A hlv e5 rfl rfl
      have e6 := xs1_A hlv e6 rfl rfl
      have e8 := xs1_N hlv
      clear hlv
      refine y_next (pc' := 151) (xst_of (i := (.aload 8)) (len := 2) rfl rfl (x_aloadV (rv_V g o14) e8)) ?_
      rcases o14 with _ | u15
      · replace H := H.1 rfl
        refine y_next (pc' := 168) (xst_of (i := (.ifnull 17)) (len := 3) rfl rfl rfl) ?_
        exact H _ _ R e0 e1 e2 e3 e4 e5 e6 e8 ok_l0 ok_l1 ok_n
      · replace H := H.2 u15 rfl
        have ok_u15 := ok_o14 u15 rfl
        refine y_next (pc' := 154) (xst_of (i := (.ifnull 17)) (len := 3) rfl rfl rfl) ?_
        refine y_next (pc' := 155) (xst_of (i := (.aload_n 0)) (len := 1) rfl rfl (x_aloadV (xisV_r _) e0)) ?_
        refine y_next (pc' := 157) (xst_of (i := (.aload 8)) (len := 2) rfl rfl (x_aloadV (xisV_r _) e8)) ?_
        refine z_gI (t := u15) (k := 0) rfl rfl rfl R ok_u15 ?_
        refine y_next (pc' := 162) (xst_of (i := (.aload 8)) (len := 2) rfl rfl (x_aloadV (xisV_r _) e8)) ?_
        refine z_gR (t := u15) (k := 1) rfl rfl rfl R ok_u15 rfl (fun o16 ho ok_o16 => ?_)
        replace H := H o16 ho
        clear ho
        obtain ⟨u17, hn, H⟩ := H
        subst hn
        have ok_u17 := ok_o16 u17 rfl
        refine z_cN (k := 39) (i := (.invokevirtual 116)) (as := [.ref (g.2 l0 0), .int (fI Y13 u15 0), .ref (g.2 u17 0)]) (rest := []) rfl rfl (x_callv rfl rfl (rc_ob R ok_l0 rfl) rfl rfl) (H _ _ R rfl rfl rfl ok_l0 ok_u17) (fun h Y18 R H => ?_)
        exact H _ _ R e0 e1 e2 e3 e4 e5 e6 e8 ok_l0 ok_l1 (ok_s ok_u15)
theorem l_38_90 {V : xV} {g : xG} {Y : xW} {l0 : xT} {l1 : xT} {l2 : Int32} {l3 : Int32} {l4 : Int32} {l5 : Int32} {l6 : Int32} {s0 : xT} {s1 : Int32} {Q : xW → Prop} (H : ∀ Y1, Y1 = uI Y s0 6 s1 → Q Y1) : L_38_90 V g Y l0 l1 l2 l3 l4 l5 l6 s0 s1 Q := by
  intro h lv R e0 e1 e2 e3 e4 e5 e6 ok_l0 ok_l1 ok_s0
  refine z_pI (t := s0) (k := 6) rfl rfl rfl rfl rfl R ok_s0 (fun h Y1 hY R => ?_)
  replace H := H Y1 hY
  clear hY
  exact y_ret (xst_of (i := .return_) (len := 1) rfl rfl rfl) ⟨_, rfl, R, H⟩
theorem l_38_113 {V : xV} {g : xG} {Y : xW} {l0 : xT} {l1 : xT} {l2 : Int32} {l3 : Int32} {l4 : Int32} {l5 : Int32} {l6 : Int32} {s0 : xT} {s1 : Int32} {Q : xW → Prop} (H : ∀ Y1, Y1 = uI Y s0 6 s1 → Q Y1) : L_38_113 V g Y l0 l1 l2 l3 l4 l5 l6 s0 s1 Q := by
  intro h lv R e0 e1 e2 e3 e4 e5 e6 ok_l0 ok_l1 ok_s0
  refine z_pI (t := s0) (k := 6) rfl rfl rfl rfl rfl R ok_s0 (fun h Y1 hY R => ?_)
  replace H := H Y1 hY
  clear hY
  exact y_ret (xst_of (i := .return_) (len := 1) rfl rfl rfl) ⟨_, rfl, R, H⟩
theorem l_38_140 {V : xV} {g : xG} {Y : xW} {l0 : xT} {l1 : xT} {l2 : Int32} {l3 : Int32} {l4 : Int32} {l5 : Int32} {l6 : Int32} {l7 : Option xT} {Q : xW → Prop} (H : Q Y) : L_38_140 V g Y l0 l1 l2 l3 l4 l5 l6 l7 Q := by
  intro h lv R e0 e1 e2 e3 e4 e5 e6 e7 ok_l0 ok_l1 ok_l7
  exact y_ret (xst_of (i := .return_) (len := 1) rfl rfl rfl) ⟨_, rfl, R, H⟩
theorem l_38_168 {V : xV} {g : xG} {Y : xW} {l0 : xT} {l1 : xT} {l2 : Int32} {l3 : Int32} {l4 : Int32} {l5 : Int32} {l6 : Int32} {l8 : Option xT} {Q : xW → Prop} (H : Q Y) : L_38_168 V g Y l0 l1 l2 l3 l4 l5 l6 l8 Q := by
  intro h lv R e0 e1 e2 e3 e4 e5 e6 e8 ok_l0 ok_l1 ok_l8
  exact y_ret (xst_of (i := .return_) (len := 1) rfl rfl rfl) ⟨_, rfl, R, H⟩
theorem l_39_0 {V : xV} {g : xG} {Y : xW} {l0 : xT} {l1 : Int32} {l2 : xT} {Q : xW → Prop} (H : (((fI Y l0 4) < (Int32.ofNat 40)) → L_30_0 V g Y l0 (fun x2 Y1 => vp_in (fI Y l0 4) 40 ∧ ∀ Y3, Y3 = uA Y1 l0 3 (Int32.toNatClampNeg (fI Y l0 4)) (x2 + 1) → ∀ Y4, Y4 = uI Y3 l0 4 ((fI Y3 l0 4) + 1) → ∀ Y5, Y5 = uI Y4 l0 5 l1 → ∀ Y6, Y6 = uI Y5 l0 6 (fI Y5 l2 0) → Q Y6)) ∧ (¬ ((fI Y l0 4) < (Int32.ofNat 40)) → Q Y)) : L_39_0 V g Y l0 l1 l2 Q := by
  intro h lv R e0 e1 e2 ok_l0 ok_l2
  refine y_next (pc' := 1) (xst_of (i := (.aload_n 0)) (len := 1) rfl rfl (x_aloadV (xisV_r _) e0)) ?_
  refine z_gI (t := l0) (k := 4) rfl rfl rfl R ok_l0 ?_
  refine y_next (pc' := 5) (xst_of (i := (.aload_n 0)) (len := 1) rfl rfl (x_aloadV (xisV_r _) e0)) ?_
  refine z_gA (t := l0) (k := 3) rfl rfl rfl R ok_l0 ?_
  refine z_ln (t := l0) (k := 3) (n := 40) rfl rfl (by decide) R ok_l0 ?_
  by_cases hc : (fI Y l0 4) < (Int32.ofNat 40)
  · replace H := H.1 hc
    refine y_next (xst_of (i := (.if_icmp .lt 4)) (len := 3) rfl rfl (xt_icmp_lt (t := 13) rfl hc)) ?_
    refine y_next (pc' := 14) (xst_of (i := (.aload_n 0)) (len := 1) rfl rfl (x_aloadV (xisV_r _) e0)) ?_
    refine z_gA (t := l0) (k := 3) rfl rfl rfl R ok_l0 ?_
    refine y_next (pc' := 18) (xst_of (i := (.aload_n 0)) (len := 1) rfl rfl (x_aloadV (xisV_r _) e0)) ?_
    refine z_gI (t := l0) (k := 4) rfl rfl rfl R ok_l0 ?_
    refine y_next (pc' := 22) (xst_of (i := (.aload_n 0)) (len := 1) rfl rfl (x_aloadV (xisV_r _) e0)) ?_
    refine z_cI (k := 30) (i := (.invokevirtual 72)) (as := [.ref (g.2 l0 0)]) (rest := [.int (fI Y l0 4), .ref (g.2 l0 4)]) rfl rfl (x_callv rfl rfl (rc_ob R ok_l0 rfl) rfl rfl) (H _ _ R rfl ok_l0) (fun x2 h Y1 R H => ?_)
    refine y_next (pc' := 26) (xst_of (i := (.iconst 1)) (len := 1) rfl rfl (x_ico (v := 1) (by decide))) ?_
    refine y_next (pc' := 27) (xst_of (i := .iadd) (len := 1) rfl rfl rfl) ?_
    refine z_sI (t := l0) (k := 3) (n := 40) (i := (fI Y l0 4)) rfl rfl R ok_l0 H.1 (fun h Y3 hY R => ?_)
    replace H := H.2 Y3 hY
    clear hY
    refine y_next (pc' := 29) (xst_of (i := (.aload_n 0)) (len := 1) rfl rfl (x_aloadV (xisV_r _) e0)) ?_
    refine y_next (pc' := 30) (xst_of (i := .dup) (len := 1) rfl rfl (x_dup rfl)) ?_
    refine z_gI (t := l0) (k := 4) rfl rfl rfl R ok_l0 ?_
    refine y_next (pc' := 34) (xst_of (i := (.iconst 1)) (len := 1) rfl rfl (x_ico (v := 1) (by decide))) ?_
    refine y_next (pc' := 35) (xst_of (i := .iadd) (len := 1) rfl rfl rfl) ?_
    refine z_pI (t := l0) (k := 4) rfl rfl rfl rfl rfl R ok_l0 (fun h Y4 hY R => ?_)
    replace H := H Y4 hY
    clear hY
    refine y_next (pc' := 39) (xst_of (i := (.aload_n 0)) (len := 1) rfl rfl (x_aloadV (xisV_r _) e0)) ?_
    refine y_next (pc' := 40) (xst_of (i := (.iload_n 1)) (len := 1) rfl rfl (x_ilo e1)) ?_
    refine z_pI (t := l0) (k := 5) rfl rfl rfl rfl rfl R ok_l0 (fun h Y5 hY R => ?_)
    replace H := H Y5 hY
    clear hY
    refine y_next (pc' := 44) (xst_of (i := (.aload_n 0)) (len := 1) rfl rfl (x_aloadV (xisV_r _) e0)) ?_
    refine y_next (pc' := 45) (xst_of (i := (.aload_n 2)) (len := 1) rfl rfl (x_aloadV (xisV_r _) e2)) ?_
    refine z_gI (t := l2) (k := 0) rfl rfl rfl R ok_l2 ?_
    refine z_pI (t := l0) (k := 6) rfl rfl rfl rfl rfl R ok_l0 (fun h Y6 hY R => ?_)
    replace H := H Y6 hY
    clear hY
    exact y_ret (xst_of (i := .return_) (len := 1) rfl rfl rfl) ⟨_, rfl, R, H⟩
  · replace H := H.2 hc
    refine y_next (pc' := 12) (xst_of (i := (.if_icmp .lt 4)) (len := 3) rfl rfl (xf_icmp_lt (t := 13) rfl hc)) ?_
    exact y_ret (xst_of (i := .return_) (len := 1) rfl rfl rfl) ⟨_, rfl, R, H⟩
theorem l_40_0 {V : xV} {g : xG} {Y : xW} {l0 : xT} {Q : xW → Prop} (H : ((0 < (fI Y l0 4)) → ∀ Y1, Y1 = uI Y l0 4 ((fI Y l0 4) - 1) → vp_in (fI Y1 l0 4) 40 ∧ ∀ Y2, Y2 = uI Y1 l0 5 ((fA Y1 l0 3 (Int32.toNatClampNeg (fI Y1 l0 4))) / 1000) → vp_in (fI Y2 l0 4) 40 ∧ ∀ Y3, Y3 = uI Y2 l0 6 ((fA Y2 l0 3 (Int32.toNatClampNeg (fI Y2 l0 4))) - (fA Y2 l0 3 (Int32.toNatClampNeg (fI Y2 l0 4))) / 1000 * 1000) → Q Y3) ∧ (¬ (0 < (fI Y l0 4)) → Q Y)) : L_40_0 V g Y l0 Q := by
  intro h lv R e0 ok_l0
  refine y_next (pc' := 1) (xst_of (i := (.aload_n 0)) (len := 1) rfl rfl (x_aloadV (xisV_r _) e0)) ?_
  refine z_gI (t := l0) (k := 4) rfl rfl rfl R ok_l0 ?_
  by_cases hc : 0 < (fI Y l0 4)
  · replace H := H.1 hc
    refine y_next (xst_of (i := (.ifCond .gt 4)) (len := 3) rfl rfl (xt_if_gt (t := 8) rfl hc)) ?_
    refine y_next (pc' := 9) (xst_of (i := (.aload_n 0)) (len := 1) rfl rfl (x_aloadV (xisV_r _) e0)) ?_
    refine y_next (pc' := 10) (xst_of (i := .dup) (len := 1) rfl rfl (x_dup rfl)) ?_
    refine z_gI (t := l0) (k := 4) rfl rfl rfl R ok_l0 ?_
    refine y_next (pc' := 14) (xst_of (i := (.iconst 1)) (len := 1) rfl rfl (x_ico (v := 1) (by decide))) ?_
    refine y_next (pc' := 15) (xst_of (i := .isub) (len := 1) rfl rfl rfl) ?_
    refine z_pI (t := l0) (k := 4) rfl rfl rfl rfl rfl R ok_l0 (fun h Y1 hY R => ?_)
    replace H := H Y1 hY
    clear hY
    refine y_next (pc' := 19) (xst_of (i := (.aload_n 0)) (len := 1) rfl rfl (x_aloadV (xisV_r _) e0)) ?_
    refine y_next (pc' := 20) (xst_of (i := (.aload_n 0)) (len := 1) rfl rfl (x_aloadV (xisV_r _) e0)) ?_
    refine z_gA (t := l0) (k := 3) rfl rfl rfl R ok_l0 ?_
    refine y_next (pc' := 24) (xst_of (i := (.aload_n 0)) (len := 1) rfl rfl (x_aloadV (xisV_r _) e0)) ?_
    refine z_gI (t := l0) (k := 4) rfl rfl rfl R ok_l0 ?_
    refine z_aI (t := l0) (k := 3) (n := 40) (i := (fI Y1 l0 4)) rfl rfl R ok_l0 H.1 ?_
    replace H := H.2
    refine y_next (pc' := 31) (xst_of (i := (.sipush 1000)) (len := 3) rfl rfl (x_sip (v := 1000) (by decide))) ?_
    refine y_next (pc' := 32) (xst_of (i := .idiv) (len := 1) rfl rfl (x_idiv (by decide))) ?_
    refine z_pI (t := l0) (k := 5) rfl rfl rfl rfl rfl R ok_l0 (fun h Y2 hY R => ?_)
    replace H := H Y2 hY
    clear hY
    refine y_next (pc' := 36) (xst_of (i := (.aload_n 0)) (len := 1) rfl rfl (x_aloadV (xisV_r _) e0)) ?_
    refine y_next (pc' := 37) (xst_of (i := (.aload_n 0)) (len := 1) rfl rfl (x_aloadV (xisV_r _) e0)) ?_
    refine z_gA (t := l0) (k := 3) rfl rfl rfl R ok_l0 ?_
    refine y_next (pc' := 41) (xst_of (i := (.aload_n 0)) (len := 1) rfl rfl (x_aloadV (xisV_r _) e0)) ?_
    refine z_gI (t := l0) (k := 4) rfl rfl rfl R ok_l0 ?_
    refine z_aI (t := l0) (k := 3) (n := 40) (i := (fI Y2 l0 4)) rfl rfl R ok_l0 H.1 ?_
    replace H := H.2
    refine y_next (pc' := 48) (xst_of (i := (.sipush 1000)) (len := 3) rfl rfl (x_sip (v := 1000) (by decide))) ?_
    refine y_next (pc' := 49) (xst_of (i := .irem) (len := 1) rfl rfl (x_irem (by decide))) ?_
    refine z_pI (t := l0) (k := 6) rfl rfl rfl rfl rfl R ok_l0 (fun h Y3 hY R => ?_)
    replace H := H Y3 hY
    clear hY
    exact y_ret (xst_of (i := .return_) (len := 1) rfl rfl rfl) ⟨_, rfl, R, H⟩
  · replace H := H.2 hc
    refine y_next (pc' := 7) (xst_of (i := (.ifCond .gt 4)) (len := 3) rfl rfl (xf_if_gt (t := 8) rfl hc)) ?_
    exact y_ret (xst_of (i := .return_) (len := 1) rfl rfl rfl) ⟨_, rfl, R, H⟩
